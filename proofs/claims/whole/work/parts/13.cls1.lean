noncomputable def f_X0_clear_7   : Nat → Int32 → (Nat → Int32) → Int32 → Option ((Nat → Int32) × Int32)
  | 0, _, _, _ => none
  | n + 1, x1, b_last, b_lines => if 6 ≤ x1 then some (b_last, b_lines) else if ixb x1 6 then f_X0_clear_7 n (x1 + 1) (upd b_last x1.toNatClampNeg (-1)) b_lines else none
noncomputable def f_X0_clear (b_last : Nat → Int32) (b_lines : Int32) : Option ((Nat → Int32) × Int32) := f_X0_clear_7 FU 0 b_last 0
def rm_X0_clear : Room := { frames := 0, cells := 0, slots := 0, locals := 0 }
set_option maxRecDepth 100000 in
set_option maxHeartbeats 4000000 in
theorem j_X0_clear_7 {J : Jt} {Z : Zt} {a0 : Nat → Nat} {o_b_last : Nat → Int32} {o_b_lines : Int32} (C : Cx J Z cX0_clear 2 RX0 none rm_X0_clear) (E : Ez J Z 0 0 none (cs_X0 J.2.2.1 a0 o_b_last o_b_lines)) : ∀ (n : Nat) (x1 : Int32) (b_last : Nat → Int32) (b_lines : Int32), f_X0_clear_7 n x1 b_last b_lines = some (o_b_last, o_b_lines) → G J Z 0 0 (cs_X0 J.2.2.1 a0 b_last b_lines) 2 [(0, .ref (a0 0)), (1, .int x1)] 7 [] := by
  intro n
  induction n with
  | zero =>
    intro x1 b_last b_lines h
    rw [f_X0_clear_7] at h
    cases h
  | succ n ih =>
    intro x1 b_last b_lines h
    rw [f_X0_clear_7] at h
    refine g_iload_n (pc := 7) C 1 rfl dX0_clear_7 ?_
    refine g_bipush (pc := 8) C dX0_clear_8 cb_6 ?_
    refine g_icmp_ge (pc := 10) C (tgt := 26) dX0_clear_10 rfl h (fun h => ?_) (fun h => ?_)
    · cases h
      exact g_vret C E dX0_clear_26
    · refine g_aload_n (pc := 13) C 0 rfl dX0_clear_13 ?_
      refine g_get (pc := 14) C FOK_X0 0 rfl rfl 0 (by decide) kw_358 rfl dX0_clear_14 ?_
      refine g_iload_n (pc := 17) C 1 rfl dX0_clear_17 ?_
      refine g_iconst (pc := 18) C dX0_clear_18 ci_m1 ?_
      obtain ⟨hi, h⟩ := ix_of h
      refine g_iast (pc := 19) C (w' := cs_X0 J.2.2.1 a0 (upd b_last x1.toNatClampNeg (-1)) b_lines) 1 rfl hi dX0_clear_19 rfl ?_
      refine g_iinc (pc := 20) C (j := 1) [(1, .int (x1 + 1)), (0, .ref (a0 0))] dX0_clear_20 rfl (ii_1 _) (by decide) rfl ?_
      refine g_goto (pc := 23) C (tgt := 7) dX0_clear_23 rfl ?_
      refine g_lv [1, 0] rfl ?_
      exact ih (x1 + 1) (upd b_last x1.toNatClampNeg (-1)) b_lines h
set_option maxRecDepth 100000 in
set_option maxHeartbeats 4000000 in
theorem t_X0_clear {J : Jt} {a0 : Nat → Nat} {b_last : Nat → Int32} {b_lines : Int32} {o_b_last : Nat → Int32} {o_b_lines : Int32} (h : f_X0_clear b_last b_lines = some (o_b_last, o_b_lines)) : Mt J yX0_clear cX0_clear 2 none rm_X0_clear [.ref (a0 0)] (cs_X0 J.2.2.1 a0 b_last b_lines) none (cs_X0 J.2.2.1 a0 o_b_last o_b_lines) := by
  refine Mt_of (own := RX0) (by decide) rfl (Nat.le_of_ble_eq_true rfl) rfl (fun Z C E => ?_)
  unfold f_X0_clear at h
  show G J Z 0 0 (cs_X0 J.2.2.1 a0 b_last b_lines) 2 [(0, .ref (a0 0))] 0 []
  refine g_aload_n (pc := 0) C 0 rfl dX0_clear_0 ?_
  refine g_iconst (pc := 1) C dX0_clear_1 ci_0 ?_
  refine g_put (pc := 2) C (w' := cs_X0 J.2.2.1 a0 b_last 0) FOK_X0 0 rfl rfl 1 (by decide) kw_360 rfl rfl rfl (Nat.le_of_ble_eq_true rfl) dX0_clear_2 rfl ?_
  refine g_iconst (pc := 5) C dX0_clear_5 ci_0 ?_
  refine g_istore_n (pc := 6) C [(1, .int 0), (0, .ref (a0 0))] dX0_clear_6 rfl (by decide) rfl ?_
  refine g_lv [1, 0] rfl ?_
  exact j_X0_clear_7 C E    FU 0 b_last 0 h
noncomputable def f_X7_blame (t_start : Int32) (t_faultKind : Int32) (t_faultPlace : Int32) (n1 : Int32) : Option (Int32 × Int32) := if t_faultKind = 0 then some (n1, t_start) else some (t_faultKind, t_faultPlace)
def rm_X7_blame : Room := { frames := 0, cells := 0, slots := 0, locals := 0 }
set_option maxRecDepth 100000 in
set_option maxHeartbeats 4000000 in
theorem t_X7_blame {J : Jt} {a0 : Nat → Nat} {t_bytes : Nat → Int32} {t_held : Int32} {t_end : Int32} {t_at : Int32} {t_start : Int32} {t_faultKind : Int32} {t_faultPlace : Int32} {n1 : Int32} {o_t_faultKind : Int32} {o_t_faultPlace : Int32} (h : f_X7_blame t_start t_faultKind t_faultPlace n1 = some (o_t_faultKind, o_t_faultPlace)) : Mt J yX7_blame cX7_blame 2 none rm_X7_blame [.ref (a0 0), .int n1] (cs_X7 J.2.2.1 a0 t_bytes t_held t_end t_at t_start t_faultKind t_faultPlace) none (cs_X7 J.2.2.1 a0 t_bytes t_held t_end t_at t_start o_t_faultKind o_t_faultPlace) := by
  refine Mt_of (own := RX7) (by decide) rfl (Nat.le_of_ble_eq_true rfl) rfl (fun Z C E => ?_)
  unfold f_X7_blame at h
  show G J Z 0 0 (cs_X7 J.2.2.1 a0 t_bytes t_held t_end t_at t_start t_faultKind t_faultPlace) 2 [(0, .ref (a0 0)), (1, .int n1)] 0 []
  refine g_aload_n (pc := 0) C 0 rfl dX7_blame_0 ?_
  refine g_get (pc := 1) C FOK_X7 0 rfl rfl 5 (by decide) kw_129 rfl dX7_blame_1 ?_
  refine g_if_ne (pc := 4) C (tgt := 20) dX7_blame_4 rfl h (fun h => ?_) (fun h => ?_)
  · cases h
    exact g_vret C E dX7_blame_20
  · refine g_aload_n (pc := 7) C 0 rfl dX7_blame_7 ?_
    refine g_iload_n (pc := 8) C 1 rfl dX7_blame_8 ?_
    refine g_put (pc := 9) C (w' := cs_X7 J.2.2.1 a0 t_bytes t_held t_end t_at t_start n1 t_faultPlace) FOK_X7 0 rfl rfl 5 (by decide) kw_129 rfl rfl rfl (Nat.le_of_ble_eq_true rfl) dX7_blame_9 rfl ?_
    refine g_aload_n (pc := 12) C 0 rfl dX7_blame_12 ?_
    refine g_aload_n (pc := 13) C 0 rfl dX7_blame_13 ?_
    refine g_get (pc := 14) C FOK_X7 0 rfl rfl 4 (by decide) kw_128 rfl dX7_blame_14 ?_
    refine g_put (pc := 17) C (w' := cs_X7 J.2.2.1 a0 t_bytes t_held t_end t_at t_start n1 t_start) FOK_X7 0 rfl rfl 6 (by decide) kw_130 rfl rfl rfl (Nat.le_of_ble_eq_true rfl) dX7_blame_17 rfl ?_
    cases h
    exact g_vret C E dX7_blame_20
noncomputable def f_X7_peek_57  (t_bytes : Nat → Int32) (t_end : Int32) (t_faultKind : Int32) (t_at : Int32) (t_start : Int32) : Option (Int32 × Int32 × Int32) := if t_end ≤ t_at then some ((-1), t_at, t_at) else if 600 ≤ t_at then some ((-1), t_at, t_at) else if ixb t_at 600 then some ((t_bytes t_at.toNatClampNeg) &&& 255, t_at, t_at) else none
noncomputable def f_X7_peek_9  (t_bytes : Nat → Int32) (t_end : Int32) (t_faultKind : Int32) : Nat → Int32 → Int32 → Option (Int32 × Int32 × Int32)
  | 0, _, _ => none
  | n + 1, t_at, t_start => if t_end ≤ t_at then f_X7_peek_57 t_bytes t_end t_faultKind t_at t_start else if 600 ≤ t_at then f_X7_peek_57 t_bytes t_end t_faultKind t_at t_start else if ixb t_at 600 then if (t_bytes t_at.toNatClampNeg) = 32 then f_X7_peek_9 t_bytes t_end t_faultKind n (t_at + 1) t_start else f_X7_peek_57 t_bytes t_end t_faultKind t_at t_start else none
noncomputable def f_X7_peek (t_bytes : Nat → Int32) (t_end : Int32) (t_at : Int32) (t_start : Int32) (t_faultKind : Int32) : Option (Int32 × Int32 × Int32) := if t_faultKind = 0 then f_X7_peek_9 t_bytes t_end t_faultKind FU t_at t_start else some ((-1), t_at, t_start)
def rm_X7_peek : Room := { frames := 0, cells := 0, slots := 0, locals := 0 }
set_option maxRecDepth 100000 in
set_option maxHeartbeats 4000000 in
theorem j_X7_peek_57 {J : Jt} {Z : Zt} {a0 : Nat → Nat} {t_bytes : Nat → Int32} {t_held : Int32} {t_end : Int32} {t_faultKind : Int32} {t_faultPlace : Int32} {r : Int32} {o_t_at : Int32} {o_t_start : Int32} (C : Cx J Z cX7_peek 1 RX7 (some .int) rm_X7_peek) (E : Ez J Z 0 0 (some (.int r)) (cs_X7 J.2.2.1 a0 t_bytes t_held t_end o_t_at o_t_start t_faultKind t_faultPlace)) : ∀ (t_at : Int32) (t_start : Int32), f_X7_peek_57 t_bytes t_end t_faultKind t_at t_start = some (r, o_t_at, o_t_start) → G J Z 0 0 (cs_X7 J.2.2.1 a0 t_bytes t_held t_end t_at t_start t_faultKind t_faultPlace) 1 [(0, .ref (a0 0))] 57 [] := by
  intro t_at t_start h
  unfold f_X7_peek_57 at h
  refine g_aload_n (pc := 57) C 0 rfl dX7_peek_57 ?_
  refine g_aload_n (pc := 58) C 0 rfl dX7_peek_58 ?_
  refine g_get (pc := 59) C FOK_X7 0 rfl rfl 3 (by decide) kw_127 rfl dX7_peek_59 ?_
  refine g_put (pc := 62) C (w' := cs_X7 J.2.2.1 a0 t_bytes t_held t_end t_at t_at t_faultKind t_faultPlace) FOK_X7 0 rfl rfl 4 (by decide) kw_128 rfl rfl rfl (Nat.le_of_ble_eq_true rfl) dX7_peek_62 rfl ?_
  refine g_aload_n (pc := 65) C 0 rfl dX7_peek_65 ?_
  refine g_get (pc := 66) C FOK_X7 0 rfl rfl 3 (by decide) kw_127 rfl dX7_peek_66 ?_
  refine g_aload_n (pc := 69) C 0 rfl dX7_peek_69 ?_
  refine g_get (pc := 70) C FOK_X7 0 rfl rfl 2 (by decide) kw_126 rfl dX7_peek_70 ?_
  refine g_icmp_ge (pc := 73) C (tgt := 102) dX7_peek_73 rfl h (fun h => ?_) (fun h => ?_)
  · refine g_iconst (pc := 102) C dX7_peek_102 ci_m1 ?_
    cases h
    exact g_iret C E dX7_peek_103
  · refine g_aload_n (pc := 76) C 0 rfl dX7_peek_76 ?_
    refine g_get (pc := 77) C FOK_X7 0 rfl rfl 3 (by decide) kw_127 rfl dX7_peek_77 ?_
    refine g_sipush (pc := 80) C dX7_peek_80 cs_600 ?_
    refine g_icmp_ge (pc := 83) C (tgt := 102) dX7_peek_83 rfl h (fun h => ?_) (fun h => ?_)
    · refine g_iconst (pc := 102) C dX7_peek_102 ci_m1 ?_
      cases h
      exact g_iret C E dX7_peek_103
    · refine g_aload_n (pc := 86) C 0 rfl dX7_peek_86 ?_
      refine g_get (pc := 87) C FOK_X7 0 rfl rfl 0 (by decide) kw_123 rfl dX7_peek_87 ?_
      refine g_aload_n (pc := 90) C 0 rfl dX7_peek_90 ?_
      refine g_get (pc := 91) C FOK_X7 0 rfl rfl 3 (by decide) kw_127 rfl dX7_peek_91 ?_
      obtain ⟨hi, h⟩ := ix_of h
      refine g_bald (pc := 94) C 1 rfl hi dX7_peek_94 ?_
      refine g_sipush (pc := 95) C dX7_peek_95 cs_255 ?_
      refine g_iand (pc := 98) C dX7_peek_98 ?_
      refine g_goto (pc := 99) C (tgt := 103) dX7_peek_99 rfl ?_
      cases h
      exact g_iret C E dX7_peek_103
set_option maxRecDepth 100000 in
set_option maxHeartbeats 4000000 in
theorem j_X7_peek_9 {J : Jt} {Z : Zt} {a0 : Nat → Nat} {t_bytes : Nat → Int32} {t_held : Int32} {t_end : Int32} {t_faultKind : Int32} {t_faultPlace : Int32} {r : Int32} {o_t_at : Int32} {o_t_start : Int32} (C : Cx J Z cX7_peek 1 RX7 (some .int) rm_X7_peek) (E : Ez J Z 0 0 (some (.int r)) (cs_X7 J.2.2.1 a0 t_bytes t_held t_end o_t_at o_t_start t_faultKind t_faultPlace)) : ∀ (n : Nat) (t_at : Int32) (t_start : Int32), f_X7_peek_9 t_bytes t_end t_faultKind n t_at t_start = some (r, o_t_at, o_t_start) → G J Z 0 0 (cs_X7 J.2.2.1 a0 t_bytes t_held t_end t_at t_start t_faultKind t_faultPlace) 1 [(0, .ref (a0 0))] 9 [] := by
  intro n
  induction n with
  | zero =>
    intro t_at t_start h
    rw [f_X7_peek_9] at h
    cases h
  | succ n ih =>
    intro t_at t_start h
    rw [f_X7_peek_9] at h
    refine g_aload_n (pc := 9) C 0 rfl dX7_peek_9 ?_
    refine g_get (pc := 10) C FOK_X7 0 rfl rfl 3 (by decide) kw_127 rfl dX7_peek_10 ?_
    refine g_aload_n (pc := 13) C 0 rfl dX7_peek_13 ?_
    refine g_get (pc := 14) C FOK_X7 0 rfl rfl 2 (by decide) kw_126 rfl dX7_peek_14 ?_
    refine g_icmp_ge (pc := 17) C (tgt := 57) dX7_peek_17 rfl h (fun h => ?_) (fun h => ?_)
    · exact j_X7_peek_57 C E    t_at t_start h
    · refine g_aload_n (pc := 20) C 0 rfl dX7_peek_20 ?_
      refine g_get (pc := 21) C FOK_X7 0 rfl rfl 3 (by decide) kw_127 rfl dX7_peek_21 ?_
      refine g_sipush (pc := 24) C dX7_peek_24 cs_600 ?_
      refine g_icmp_ge (pc := 27) C (tgt := 57) dX7_peek_27 rfl h (fun h => ?_) (fun h => ?_)
      · exact j_X7_peek_57 C E    t_at t_start h
      · refine g_aload_n (pc := 30) C 0 rfl dX7_peek_30 ?_
        refine g_get (pc := 31) C FOK_X7 0 rfl rfl 0 (by decide) kw_123 rfl dX7_peek_31 ?_
        refine g_aload_n (pc := 34) C 0 rfl dX7_peek_34 ?_
        refine g_get (pc := 35) C FOK_X7 0 rfl rfl 3 (by decide) kw_127 rfl dX7_peek_35 ?_
        obtain ⟨hi, h⟩ := ix_of h
        refine g_bald (pc := 38) C 1 rfl hi dX7_peek_38 ?_
        refine g_bipush (pc := 39) C dX7_peek_39 cb_32 ?_
        refine g_icmp_ne (pc := 41) C (tgt := 57) dX7_peek_41 rfl h (fun h => ?_) (fun h => ?_)
        · exact j_X7_peek_57 C E    t_at t_start h
        · refine g_aload_n (pc := 44) C 0 rfl dX7_peek_44 ?_
          refine g_dup (pc := 45) C dX7_peek_45 rfl ?_
          refine g_get (pc := 46) C FOK_X7 0 rfl rfl 3 (by decide) kw_127 rfl dX7_peek_46 ?_
          refine g_iconst (pc := 49) C dX7_peek_49 ci_1 ?_
          refine g_iadd (pc := 50) C dX7_peek_50 ?_
          refine g_put (pc := 51) C (w' := cs_X7 J.2.2.1 a0 t_bytes t_held t_end (t_at + 1) t_start t_faultKind t_faultPlace) FOK_X7 0 rfl rfl 3 (by decide) kw_127 rfl rfl rfl (Nat.le_of_ble_eq_true rfl) dX7_peek_51 rfl ?_
          refine g_goto (pc := 54) C (tgt := 9) dX7_peek_54 rfl ?_
          exact ih (t_at + 1) t_start h
set_option maxRecDepth 100000 in
set_option maxHeartbeats 4000000 in
theorem t_X7_peek {J : Jt} {a0 : Nat → Nat} {t_bytes : Nat → Int32} {t_held : Int32} {t_end : Int32} {t_at : Int32} {t_start : Int32} {t_faultKind : Int32} {t_faultPlace : Int32} {r : Int32} {o_t_at : Int32} {o_t_start : Int32} (h : f_X7_peek t_bytes t_end t_at t_start t_faultKind = some (r, o_t_at, o_t_start)) : Mt J yX7_peek cX7_peek 1 (some .int) rm_X7_peek [.ref (a0 0)] (cs_X7 J.2.2.1 a0 t_bytes t_held t_end t_at t_start t_faultKind t_faultPlace) (some (.int r)) (cs_X7 J.2.2.1 a0 t_bytes t_held t_end o_t_at o_t_start t_faultKind t_faultPlace) := by
  refine Mt_of (own := RX7) (by decide) rfl (Nat.le_of_ble_eq_true rfl) rfl (fun Z C E => ?_)
  unfold f_X7_peek at h
  show G J Z 0 0 (cs_X7 J.2.2.1 a0 t_bytes t_held t_end t_at t_start t_faultKind t_faultPlace) 1 [(0, .ref (a0 0))] 0 []
  refine g_aload_n (pc := 0) C 0 rfl dX7_peek_0 ?_
  refine g_get (pc := 1) C FOK_X7 0 rfl rfl 5 (by decide) kw_129 rfl dX7_peek_1 ?_
  refine g_if_eq (pc := 4) C (tgt := 9) dX7_peek_4 rfl h (fun h => ?_) (fun h => ?_)
  · exact j_X7_peek_9 C E    FU t_at t_start h
  · refine g_iconst (pc := 7) C dX7_peek_7 ci_m1 ?_
    cases h
    exact g_iret C E dX7_peek_8
noncomputable def f_X7_isAtEnd (t_bytes : Nat → Int32) (t_end : Int32) (t_at : Int32) (t_start : Int32) (t_faultKind : Int32) : Option (Int32 × Int32 × Int32) := b3 (f_X7_peek t_bytes t_end t_at t_start t_faultKind) (fun v1 c2 c3 => if v1 = (-1) then some (1, c2, c3) else some (0, c2, c3))
def rm_X7_isAtEnd : Room := { frames := 1, cells := 0, slots := 0, locals := 20 }
set_option maxRecDepth 100000 in
set_option maxHeartbeats 4000000 in
theorem t_X7_isAtEnd {J : Jt} {a0 : Nat → Nat} {t_bytes : Nat → Int32} {t_held : Int32} {t_end : Int32} {t_at : Int32} {t_start : Int32} {t_faultKind : Int32} {t_faultPlace : Int32} {r : Int32} {o_t_at : Int32} {o_t_start : Int32} (h : f_X7_isAtEnd t_bytes t_end t_at t_start t_faultKind = some (r, o_t_at, o_t_start)) : Mt J yX7_isAtEnd cX7_isAtEnd 1 (some .boolean) rm_X7_isAtEnd [.ref (a0 0)] (cs_X7 J.2.2.1 a0 t_bytes t_held t_end t_at t_start t_faultKind t_faultPlace) (some (.int r)) (cs_X7 J.2.2.1 a0 t_bytes t_held t_end o_t_at o_t_start t_faultKind t_faultPlace) := by
  refine Mt_of (own := RX7) (by decide) rfl (Nat.le_of_ble_eq_true rfl) rfl (fun Z C E => ?_)
  unfold f_X7_isAtEnd at h
  show G J Z 0 0 (cs_X7 J.2.2.1 a0 t_bytes t_held t_end t_at t_start t_faultKind t_faultPlace) 1 [(0, .ref (a0 0))] 0 []
  refine g_aload_n (pc := 0) C 0 rfl dX7_isAtEnd_0 ?_
  obtain ⟨v1, c2, c3, hc, h⟩ := b3_of h
  refine g_callV (pc := 1) C (w' := cs_X7 J.2.2.1 a0 t_bytes t_held t_end c2 c3 t_faultKind t_faultPlace) (As := []) (st := []) (ci := 7) (q0 := 0) rfl rfl (t_X7_peek (a0 := a0) hc) Sub.same kw_623 kw_624 kw_625 kw_87 hy_X7_peek kw_626 rfl (Nat.le_of_ble_eq_true rfl) (Nat.le_of_ble_eq_true rfl) (Nat.le_of_ble_eq_true rfl) (Nat.le_of_ble_eq_true rfl) (Nat.le_of_ble_eq_true rfl) dX7_isAtEnd_1 ?_
  refine g_iconst (pc := 4) C dX7_isAtEnd_4 ci_m1 ?_
  refine g_icmp_ne (pc := 5) C (tgt := 12) dX7_isAtEnd_5 rfl h (fun h => ?_) (fun h => ?_)
  · refine g_iconst (pc := 12) C dX7_isAtEnd_12 ci_0 ?_
    cases h
    exact g_zret C rfl E dX7_isAtEnd_13
  · refine g_iconst (pc := 8) C dX7_isAtEnd_8 ci_1 ?_
    refine g_goto (pc := 9) C (tgt := 13) dX7_isAtEnd_9 rfl ?_
    cases h
    exact g_zret C rfl E dX7_isAtEnd_13
noncomputable def f_X7_need (t_bytes : Nat → Int32) (t_end : Int32) (t_at : Int32) (t_start : Int32) (t_faultKind : Int32) (t_faultPlace : Int32) (n1 : Int32) : Option (Int32 × Int32 × Int32 × Int32) := b3 (f_X7_peek t_bytes t_end t_at t_start t_faultKind) (fun v1 c2 c3 => if v1 = n1 then some (c2 + 1, c3, t_faultKind, t_faultPlace) else b2 (f_X7_blame c3 t_faultKind t_faultPlace 1) (fun c4 c5 => some (c2, c3, c4, c5)))
def rm_X7_need : Room := { frames := 1, cells := 0, slots := 0, locals := 21 }
set_option maxRecDepth 100000 in
set_option maxHeartbeats 4000000 in
theorem t_X7_need {J : Jt} {a0 : Nat → Nat} {t_bytes : Nat → Int32} {t_held : Int32} {t_end : Int32} {t_at : Int32} {t_start : Int32} {t_faultKind : Int32} {t_faultPlace : Int32} {n1 : Int32} {o_t_at : Int32} {o_t_start : Int32} {o_t_faultKind : Int32} {o_t_faultPlace : Int32} (h : f_X7_need t_bytes t_end t_at t_start t_faultKind t_faultPlace n1 = some (o_t_at, o_t_start, o_t_faultKind, o_t_faultPlace)) : Mt J yX7_need cX7_need 2 none rm_X7_need [.ref (a0 0), .int n1] (cs_X7 J.2.2.1 a0 t_bytes t_held t_end t_at t_start t_faultKind t_faultPlace) none (cs_X7 J.2.2.1 a0 t_bytes t_held t_end o_t_at o_t_start o_t_faultKind o_t_faultPlace) := by
  refine Mt_of (own := RX7) (by decide) rfl (Nat.le_of_ble_eq_true rfl) rfl (fun Z C E => ?_)
  unfold f_X7_need at h
  show G J Z 0 0 (cs_X7 J.2.2.1 a0 t_bytes t_held t_end t_at t_start t_faultKind t_faultPlace) 2 [(0, .ref (a0 0)), (1, .int n1)] 0 []
  refine g_aload_n (pc := 0) C 0 rfl dX7_need_0 ?_
  obtain ⟨v1, c2, c3, hc, h⟩ := b3_of h
  refine g_callV (pc := 1) C (w' := cs_X7 J.2.2.1 a0 t_bytes t_held t_end c2 c3 t_faultKind t_faultPlace) (As := []) (st := []) (ci := 7) (q0 := 0) rfl rfl (t_X7_peek (a0 := a0) hc) Sub.same kw_623 kw_624 kw_625 kw_87 hy_X7_peek kw_626 rfl (Nat.le_of_ble_eq_true rfl) (Nat.le_of_ble_eq_true rfl) (Nat.le_of_ble_eq_true rfl) (Nat.le_of_ble_eq_true rfl) (Nat.le_of_ble_eq_true rfl) dX7_need_1 ?_
  refine g_iload_n (pc := 4) C 1 rfl dX7_need_4 ?_
  refine g_icmp_ne (pc := 5) C (tgt := 21) dX7_need_5 rfl h (fun h => ?_) (fun h => ?_)
  · refine g_aload_n (pc := 21) C 0 rfl dX7_need_21 ?_
    refine g_iconst (pc := 22) C dX7_need_22 ci_1 ?_
    obtain ⟨c4, c5, hc, h⟩ := b2_of h
    refine g_callV (pc := 23) C (w' := cs_X7 J.2.2.1 a0 t_bytes t_held t_end c2 c3 c4 c5) (As := [.int 1]) (st := []) (ci := 7) (q0 := 0) rfl rfl (t_X7_blame (a0 := a0) hc) Sub.same kw_706 kw_696 kw_697 kw_87 hy_X7_blame kw_698 rfl (Nat.le_of_ble_eq_true rfl) (Nat.le_of_ble_eq_true rfl) (Nat.le_of_ble_eq_true rfl) (Nat.le_of_ble_eq_true rfl) (Nat.le_of_ble_eq_true rfl) dX7_need_23 ?_
    cases h
    exact g_vret C E dX7_need_26
  · refine g_aload_n (pc := 8) C 0 rfl dX7_need_8 ?_
    refine g_dup (pc := 9) C dX7_need_9 rfl ?_
    refine g_get (pc := 10) C FOK_X7 0 rfl rfl 3 (by decide) kw_127 rfl dX7_need_10 ?_
    refine g_iconst (pc := 13) C dX7_need_13 ci_1 ?_
    refine g_iadd (pc := 14) C dX7_need_14 ?_
    refine g_put (pc := 15) C (w' := cs_X7 J.2.2.1 a0 t_bytes t_held t_end (c2 + 1) c3 t_faultKind t_faultPlace) FOK_X7 0 rfl rfl 3 (by decide) kw_127 rfl rfl rfl (Nat.le_of_ble_eq_true rfl) dX7_need_15 rfl ?_
    refine g_goto (pc := 18) C (tgt := 26) dX7_need_18 rfl ?_
    cases h
    exact g_vret C E dX7_need_26
noncomputable def f_X7_byteAt (t_bytes : Nat → Int32) (t_end : Int32) (n1 : Int32) : Option (Int32) := if n1 < 0 then some (-1) else if t_end ≤ n1 then some (-1) else if 600 ≤ n1 then some (-1) else if ixb n1 600 then some ((t_bytes n1.toNatClampNeg) &&& 255) else none
def rm_X7_byteAt : Room := { frames := 0, cells := 0, slots := 0, locals := 0 }
set_option maxRecDepth 100000 in
set_option maxHeartbeats 4000000 in
theorem t_X7_byteAt {J : Jt} {a0 : Nat → Nat} {t_bytes : Nat → Int32} {t_held : Int32} {t_end : Int32} {t_at : Int32} {t_start : Int32} {t_faultKind : Int32} {t_faultPlace : Int32} {n1 : Int32} {r : Int32} (h : f_X7_byteAt t_bytes t_end n1 = some r) : Mt J yX7_byteAt cX7_byteAt 2 (some .int) rm_X7_byteAt [.ref (a0 0), .int n1] (cs_X7 J.2.2.1 a0 t_bytes t_held t_end t_at t_start t_faultKind t_faultPlace) (some (.int r)) (cs_X7 J.2.2.1 a0 t_bytes t_held t_end t_at t_start t_faultKind t_faultPlace) := by
  refine Mt_of (own := RX7) (by decide) rfl (Nat.le_of_ble_eq_true rfl) rfl (fun Z C E => ?_)
  unfold f_X7_byteAt at h
  show G J Z 0 0 (cs_X7 J.2.2.1 a0 t_bytes t_held t_end t_at t_start t_faultKind t_faultPlace) 2 [(0, .ref (a0 0)), (1, .int n1)] 0 []
  refine g_iload_n (pc := 0) C 1 rfl dX7_byteAt_0 ?_
  refine g_if_lt (pc := 1) C (tgt := 32) dX7_byteAt_1 rfl h (fun h => ?_) (fun h => ?_)
  · refine g_iconst (pc := 32) C dX7_byteAt_32 ci_m1 ?_
    cases h
    exact g_iret C E dX7_byteAt_33
  · refine g_iload_n (pc := 4) C 1 rfl dX7_byteAt_4 ?_
    refine g_aload_n (pc := 5) C 0 rfl dX7_byteAt_5 ?_
    refine g_get (pc := 6) C FOK_X7 0 rfl rfl 2 (by decide) kw_126 rfl dX7_byteAt_6 ?_
    refine g_icmp_ge (pc := 9) C (tgt := 32) dX7_byteAt_9 rfl h (fun h => ?_) (fun h => ?_)
    · refine g_iconst (pc := 32) C dX7_byteAt_32 ci_m1 ?_
      cases h
      exact g_iret C E dX7_byteAt_33
    · refine g_iload_n (pc := 12) C 1 rfl dX7_byteAt_12 ?_
      refine g_sipush (pc := 13) C dX7_byteAt_13 cs_600 ?_
      refine g_icmp_ge (pc := 16) C (tgt := 32) dX7_byteAt_16 rfl h (fun h => ?_) (fun h => ?_)
      · refine g_iconst (pc := 32) C dX7_byteAt_32 ci_m1 ?_
        cases h
        exact g_iret C E dX7_byteAt_33
      · refine g_aload_n (pc := 19) C 0 rfl dX7_byteAt_19 ?_
        refine g_get (pc := 20) C FOK_X7 0 rfl rfl 0 (by decide) kw_123 rfl dX7_byteAt_20 ?_
        refine g_iload_n (pc := 23) C 1 rfl dX7_byteAt_23 ?_
        obtain ⟨hi, h⟩ := ix_of h
        refine g_bald (pc := 24) C 1 rfl hi dX7_byteAt_24 ?_
        refine g_sipush (pc := 25) C dX7_byteAt_25 cs_255 ?_
        refine g_iand (pc := 28) C dX7_byteAt_28 ?_
        refine g_goto (pc := 29) C (tgt := 33) dX7_byteAt_29 rfl ?_
        cases h
        exact g_iret C E dX7_byteAt_33
noncomputable def f_X7_isDigit  (n1 : Int32) : Option (Int32) := if n1 < 48 then some 0 else if 57 < n1 then some 0 else some 1
def rm_X7_isDigit : Room := { frames := 0, cells := 0, slots := 0, locals := 0 }
set_option maxRecDepth 100000 in
set_option maxHeartbeats 4000000 in
theorem t_X7_isDigit {J : Jt}  {n1 : Int32} {r : Int32} (h : f_X7_isDigit n1 = some r) : Mt J yX7_isDigit cX7_isDigit 1 (some .boolean) rm_X7_isDigit [.int n1] ([]) (some (.int r)) ([]) := by
  refine Mt_of (own := RX7) (by decide) rfl (Nat.le_of_ble_eq_true rfl) rfl (fun Z C E => ?_)
  unfold f_X7_isDigit at h
  show G J Z 0 0 ([]) 1 [(0, .int n1)] 0 []
  refine g_iload_n (pc := 0) C 0 rfl dX7_isDigit_0 ?_
  refine g_bipush (pc := 1) C dX7_isDigit_1 cb_48 ?_
  refine g_icmp_lt (pc := 3) C (tgt := 16) dX7_isDigit_3 rfl h (fun h => ?_) (fun h => ?_)
  · refine g_iconst (pc := 16) C dX7_isDigit_16 ci_0 ?_
    cases h
    exact g_zret C rfl E dX7_isDigit_17
  · refine g_iload_n (pc := 6) C 0 rfl dX7_isDigit_6 ?_
    refine g_bipush (pc := 7) C dX7_isDigit_7 cb_57 ?_
    refine g_icmp_gt (pc := 9) C (tgt := 16) dX7_isDigit_9 rfl h (fun h => ?_) (fun h => ?_)
    · refine g_iconst (pc := 16) C dX7_isDigit_16 ci_0 ?_
      cases h
      exact g_zret C rfl E dX7_isDigit_17
    · refine g_iconst (pc := 12) C dX7_isDigit_12 ci_1 ?_
      refine g_goto (pc := 13) C (tgt := 17) dX7_isDigit_13 rfl ?_
      cases h
      exact g_zret C rfl E dX7_isDigit_17
noncomputable def f_X7_number_90  (t_bytes : Nat → Int32) (t_end : Int32) (n1 : Int32) (n2 : Int32) (t_at : Int32) (t_start : Int32) (t_faultKind : Int32) (t_faultPlace : Int32) : Option (Int32 × Int32 × Int32 × Int32 × Int32) := b2 (f_X7_blame t_start t_faultKind t_faultPlace 2) (fun c1 c2 => some (0, t_at, t_start, c1, c2))
noncomputable def f_X7_number_80  (t_bytes : Nat → Int32) (t_end : Int32) (n1 : Int32) (n2 : Int32) (x3 : Int32) (t_at : Int32) (t_start : Int32) (t_faultKind : Int32) (t_faultPlace : Int32) : Option (Int32 × Int32 × Int32 × Int32 × Int32) := if x3 < n1 then f_X7_number_90 t_bytes t_end n1 n2 t_at t_start t_faultKind t_faultPlace else if x3 ≤ n2 then some (x3, t_at, t_start, t_faultKind, t_faultPlace) else f_X7_number_90 t_bytes t_end n1 n2 t_at t_start t_faultKind t_faultPlace
noncomputable def f_X7_number_19  (t_bytes : Nat → Int32) (t_end : Int32) (n1 : Int32) (n2 : Int32) : Nat → Int32 → Int32 → Int32 → Int32 → Int32 → Option (Int32 × Int32 × Int32 × Int32 × Int32)
  | 0, _, _, _, _, _ => none
  | n + 1, x3, t_at, t_start, t_faultKind, t_faultPlace => if t_end ≤ t_at then f_X7_number_80 t_bytes t_end n1 n2 x3 t_at t_start t_faultKind t_faultPlace else b1 (f_X7_byteAt t_bytes t_end t_at) (fun v3 => b1 (f_X7_isDigit v3) (fun v4 => if v4 = 0 then f_X7_number_80 t_bytes t_end n1 n2 x3 t_at t_start t_faultKind t_faultPlace else b1 (f_X7_byteAt t_bytes t_end t_at) (fun v5 => f_X7_number_19 t_bytes t_end n1 n2 n (imin (((x3 * 10) + v5) - 48) 1000) (t_at + 1) t_start t_faultKind t_faultPlace)))
noncomputable def f_X7_number (t_bytes : Nat → Int32) (t_end : Int32) (t_at : Int32) (t_start : Int32) (t_faultKind : Int32) (t_faultPlace : Int32) (n1 : Int32) (n2 : Int32) : Option (Int32 × Int32 × Int32 × Int32 × Int32) := b3 (f_X7_peek t_bytes t_end t_at t_start t_faultKind) (fun v6 c7 c8 => b1 (f_X7_isDigit v6) (fun v9 => if v9 = 0 then b2 (f_X7_blame c8 t_faultKind t_faultPlace 1) (fun c10 c11 => some (0, c7, c8, c10, c11)) else f_X7_number_19 t_bytes t_end n1 n2 FU 0 c7 c8 t_faultKind t_faultPlace))
def rm_X7_number : Room := { frames := 1, cells := 0, slots := 0, locals := 40 }
set_option maxRecDepth 100000 in
set_option maxHeartbeats 4000000 in
theorem j_X7_number_90 {J : Jt} {Z : Zt} {a0 : Nat → Nat} {t_bytes : Nat → Int32} {t_held : Int32} {t_end : Int32} {n1 : Int32} {n2 : Int32} {r : Int32} {o_t_at : Int32} {o_t_start : Int32} {o_t_faultKind : Int32} {o_t_faultPlace : Int32} (C : Cx J Z cX7_number 4 RX7 (some .int) rm_X7_number) (E : Ez J Z 0 0 (some (.int r)) (cs_X7 J.2.2.1 a0 t_bytes t_held t_end o_t_at o_t_start o_t_faultKind o_t_faultPlace)) : ∀ (t_at : Int32) (t_start : Int32) (t_faultKind : Int32) (t_faultPlace : Int32), f_X7_number_90 t_bytes t_end n1 n2 t_at t_start t_faultKind t_faultPlace = some (r, o_t_at, o_t_start, o_t_faultKind, o_t_faultPlace) → G J Z 0 0 (cs_X7 J.2.2.1 a0 t_bytes t_held t_end t_at t_start t_faultKind t_faultPlace) 4 [(0, .ref (a0 0))] 90 [] := by
  intro t_at t_start t_faultKind t_faultPlace h
  unfold f_X7_number_90 at h
  refine g_aload_n (pc := 90) C 0 rfl dX7_number_90 ?_
  refine g_iconst (pc := 91) C dX7_number_91 ci_2 ?_
  obtain ⟨c1, c2, hc, h⟩ := b2_of h
  refine g_callV (pc := 92) C (w' := cs_X7 J.2.2.1 a0 t_bytes t_held t_end t_at t_start c1 c2) (As := [.int 2]) (st := []) (ci := 7) (q0 := 0) rfl rfl (t_X7_blame (a0 := a0) hc) Sub.same kw_706 kw_696 kw_697 kw_87 hy_X7_blame kw_698 rfl (Nat.le_of_ble_eq_true rfl) (Nat.le_of_ble_eq_true rfl) (Nat.le_of_ble_eq_true rfl) (Nat.le_of_ble_eq_true rfl) (Nat.le_of_ble_eq_true rfl) dX7_number_92 ?_
  refine g_iconst (pc := 95) C dX7_number_95 ci_0 ?_
  cases h
  exact g_iret C E dX7_number_96
set_option maxRecDepth 100000 in
set_option maxHeartbeats 4000000 in
theorem j_X7_number_80 {J : Jt} {Z : Zt} {a0 : Nat → Nat} {t_bytes : Nat → Int32} {t_held : Int32} {t_end : Int32} {n1 : Int32} {n2 : Int32} {r : Int32} {o_t_at : Int32} {o_t_start : Int32} {o_t_faultKind : Int32} {o_t_faultPlace : Int32} (C : Cx J Z cX7_number 4 RX7 (some .int) rm_X7_number) (E : Ez J Z 0 0 (some (.int r)) (cs_X7 J.2.2.1 a0 t_bytes t_held t_end o_t_at o_t_start o_t_faultKind o_t_faultPlace)) : ∀ (x3 : Int32) (t_at : Int32) (t_start : Int32) (t_faultKind : Int32) (t_faultPlace : Int32), f_X7_number_80 t_bytes t_end n1 n2 x3 t_at t_start t_faultKind t_faultPlace = some (r, o_t_at, o_t_start, o_t_faultKind, o_t_faultPlace) → G J Z 0 0 (cs_X7 J.2.2.1 a0 t_bytes t_held t_end t_at t_start t_faultKind t_faultPlace) 4 [(0, .ref (a0 0)), (1, .int n1), (2, .int n2), (3, .int x3)] 80 [] := by
  intro x3 t_at t_start t_faultKind t_faultPlace h
  unfold f_X7_number_80 at h
  refine g_iload_n (pc := 80) C 3 rfl dX7_number_80 ?_
  refine g_iload_n (pc := 81) C 1 rfl dX7_number_81 ?_
  refine g_icmp_lt (pc := 82) C (tgt := 90) dX7_number_82 rfl h (fun h => ?_) (fun h => ?_)
  · refine g_lv [0] rfl ?_
    exact j_X7_number_90 C E    t_at t_start t_faultKind t_faultPlace h
  · refine g_iload_n (pc := 85) C 3 rfl dX7_number_85 ?_
    refine g_iload_n (pc := 86) C 2 rfl dX7_number_86 ?_
    refine g_icmp_le (pc := 87) C (tgt := 97) dX7_number_87 rfl h (fun h => ?_) (fun h => ?_)
    · refine g_iload_n (pc := 97) C 3 rfl dX7_number_97 ?_
      cases h
      exact g_iret C E dX7_number_98
    · refine g_lv [0] rfl ?_
      exact j_X7_number_90 C E    t_at t_start t_faultKind t_faultPlace h
set_option maxRecDepth 100000 in
set_option maxHeartbeats 4000000 in
theorem j_X7_number_19 {J : Jt} {Z : Zt} {a0 : Nat → Nat} {t_bytes : Nat → Int32} {t_held : Int32} {t_end : Int32} {n1 : Int32} {n2 : Int32} {r : Int32} {o_t_at : Int32} {o_t_start : Int32} {o_t_faultKind : Int32} {o_t_faultPlace : Int32} (C : Cx J Z cX7_number 4 RX7 (some .int) rm_X7_number) (E : Ez J Z 0 0 (some (.int r)) (cs_X7 J.2.2.1 a0 t_bytes t_held t_end o_t_at o_t_start o_t_faultKind o_t_faultPlace)) : ∀ (n : Nat) (x3 : Int32) (t_at : Int32) (t_start : Int32) (t_faultKind : Int32) (t_faultPlace : Int32), f_X7_number_19 t_bytes t_end n1 n2 n x3 t_at t_start t_faultKind t_faultPlace = some (r, o_t_at, o_t_start, o_t_faultKind, o_t_faultPlace) → G J Z 0 0 (cs_X7 J.2.2.1 a0 t_bytes t_held t_end t_at t_start t_faultKind t_faultPlace) 4 [(0, .ref (a0 0)), (1, .int n1), (2, .int n2), (3, .int x3)] 19 [] := by
  intro n
  induction n with
  | zero =>
    intro x3 t_at t_start t_faultKind t_faultPlace h
    rw [f_X7_number_19] at h
    cases h
  | succ n ih =>
    intro x3 t_at t_start t_faultKind t_faultPlace h
    rw [f_X7_number_19] at h
    refine g_aload_n (pc := 19) C 0 rfl dX7_number_19 ?_
    refine g_get (pc := 20) C FOK_X7 0 rfl rfl 3 (by decide) kw_127 rfl dX7_number_20 ?_
    refine g_aload_n (pc := 23) C 0 rfl dX7_number_23 ?_
    refine g_get (pc := 24) C FOK_X7 0 rfl rfl 2 (by decide) kw_126 rfl dX7_number_24 ?_
    refine g_icmp_ge (pc := 27) C (tgt := 80) dX7_number_27 rfl h (fun h => ?_) (fun h => ?_)
    · exact j_X7_number_80 C E    x3 t_at t_start t_faultKind t_faultPlace h
    · refine g_aload_n (pc := 30) C 0 rfl dX7_number_30 ?_
      refine g_aload_n (pc := 31) C 0 rfl dX7_number_31 ?_
      refine g_get (pc := 32) C FOK_X7 0 rfl rfl 3 (by decide) kw_127 rfl dX7_number_32 ?_
      obtain ⟨v3, hc, h⟩ := b1_of h
      refine g_callV (pc := 35) C (w' := cs_X7 J.2.2.1 a0 t_bytes t_held t_end t_at t_start t_faultKind t_faultPlace) (As := [.int t_at]) (st := []) (ci := 7) (q0 := 0) rfl rfl (t_X7_byteAt (a0 := a0) hc) Sub.same kw_646 kw_647 kw_648 kw_87 hy_X7_byteAt kw_649 rfl (Nat.le_of_ble_eq_true rfl) (Nat.le_of_ble_eq_true rfl) (Nat.le_of_ble_eq_true rfl) (Nat.le_of_ble_eq_true rfl) (Nat.le_of_ble_eq_true rfl) dX7_number_35 ?_
      obtain ⟨v4, hc, h⟩ := b1_of h
      refine g_callS (pc := 38) C (w' := cs_X7 J.2.2.1 a0 t_bytes t_held t_end t_at t_start t_faultKind t_faultPlace) (As := [.int v3]) (st := []) (t_X7_isDigit hc) Sub.nil kw_703 kw_704 kw_87 hy_X7_isDigit kw_705 rfl (Nat.le_of_ble_eq_true rfl) (Nat.le_of_ble_eq_true rfl) (Nat.le_of_ble_eq_true rfl) (Nat.le_of_ble_eq_true rfl) (Nat.le_of_ble_eq_true rfl) dX7_number_38 ?_
      refine g_if_eq (pc := 41) C (tgt := 80) dX7_number_41 rfl h (fun h => ?_) (fun h => ?_)
      · exact j_X7_number_80 C E    x3 t_at t_start t_faultKind t_faultPlace h
      · refine g_iload_n (pc := 44) C 3 rfl dX7_number_44 ?_
        refine g_bipush (pc := 45) C dX7_number_45 cb_10 ?_
        refine g_imul (pc := 47) C dX7_number_47 ?_
        refine g_aload_n (pc := 48) C 0 rfl dX7_number_48 ?_
        refine g_aload_n (pc := 49) C 0 rfl dX7_number_49 ?_
        refine g_get (pc := 50) C FOK_X7 0 rfl rfl 3 (by decide) kw_127 rfl dX7_number_50 ?_
        obtain ⟨v5, hc, h⟩ := b1_of h
        refine g_callV (pc := 53) C (w' := cs_X7 J.2.2.1 a0 t_bytes t_held t_end t_at t_start t_faultKind t_faultPlace) (As := [.int t_at]) (st := [.int (x3 * 10)]) (ci := 7) (q0 := 0) rfl rfl (t_X7_byteAt (a0 := a0) hc) Sub.same kw_646 kw_647 kw_648 kw_87 hy_X7_byteAt kw_649 rfl (Nat.le_of_ble_eq_true rfl) (Nat.le_of_ble_eq_true rfl) (Nat.le_of_ble_eq_true rfl) (Nat.le_of_ble_eq_true rfl) (Nat.le_of_ble_eq_true rfl) dX7_number_53 ?_
        refine g_iadd (pc := 56) C dX7_number_56 ?_
        refine g_bipush (pc := 57) C dX7_number_57 cb_48 ?_
        refine g_isub (pc := 59) C dX7_number_59 ?_
        refine g_sipush (pc := 60) C dX7_number_60 cs_1000 ?_
        refine g_imin (pc := 63) C kw_707 kw_543 kw_96 kw_544 (Nat.le_of_ble_eq_true rfl) (Nat.le_of_ble_eq_true rfl) (Nat.le_of_ble_eq_true rfl) (Nat.le_of_ble_eq_true rfl) dX7_number_63 ?_
        refine g_istore_n (pc := 66) C [(3, .int (imin (((x3 * 10) + v5) - 48) 1000)), (0, .ref (a0 0)), (1, .int n1), (2, .int n2)] dX7_number_66 rfl (by decide) rfl ?_
        refine g_aload_n (pc := 67) C 1 rfl dX7_number_67 ?_
        refine g_dup (pc := 68) C dX7_number_68 rfl ?_
        refine g_get (pc := 69) C FOK_X7 0 rfl rfl 3 (by decide) kw_127 rfl dX7_number_69 ?_
        refine g_iconst (pc := 72) C dX7_number_72 ci_1 ?_
        refine g_iadd (pc := 73) C dX7_number_73 ?_
        refine g_put (pc := 74) C (w' := cs_X7 J.2.2.1 a0 t_bytes t_held t_end (t_at + 1) t_start t_faultKind t_faultPlace) FOK_X7 0 rfl rfl 3 (by decide) kw_127 rfl rfl rfl (Nat.le_of_ble_eq_true rfl) dX7_number_74 rfl ?_
        refine g_goto (pc := 77) C (tgt := 19) dX7_number_77 rfl ?_
        refine g_lv [1, 2, 3, 0] rfl ?_
        exact ih (imin (((x3 * 10) + v5) - 48) 1000) (t_at + 1) t_start t_faultKind t_faultPlace h
set_option maxRecDepth 100000 in
set_option maxHeartbeats 4000000 in
theorem t_X7_number {J : Jt} {a0 : Nat → Nat} {t_bytes : Nat → Int32} {t_held : Int32} {t_end : Int32} {t_at : Int32} {t_start : Int32} {t_faultKind : Int32} {t_faultPlace : Int32} {n1 : Int32} {n2 : Int32} {r : Int32} {o_t_at : Int32} {o_t_start : Int32} {o_t_faultKind : Int32} {o_t_faultPlace : Int32} (h : f_X7_number t_bytes t_end t_at t_start t_faultKind t_faultPlace n1 n2 = some (r, o_t_at, o_t_start, o_t_faultKind, o_t_faultPlace)) : Mt J yX7_number cX7_number 4 (some .int) rm_X7_number [.ref (a0 0), .int n1, .int n2] (cs_X7 J.2.2.1 a0 t_bytes t_held t_end t_at t_start t_faultKind t_faultPlace) (some (.int r)) (cs_X7 J.2.2.1 a0 t_bytes t_held t_end o_t_at o_t_start o_t_faultKind o_t_faultPlace) := by
  refine Mt_of (own := RX7) (by decide) rfl (Nat.le_of_ble_eq_true rfl) rfl (fun Z C E => ?_)
  unfold f_X7_number at h
  show G J Z 0 0 (cs_X7 J.2.2.1 a0 t_bytes t_held t_end t_at t_start t_faultKind t_faultPlace) 4 [(0, .ref (a0 0)), (1, .int n1), (2, .int n2)] 0 []
  refine g_aload_n (pc := 0) C 0 rfl dX7_number_0 ?_
  obtain ⟨v6, c7, c8, hc, h⟩ := b3_of h
  refine g_callV (pc := 1) C (w' := cs_X7 J.2.2.1 a0 t_bytes t_held t_end c7 c8 t_faultKind t_faultPlace) (As := []) (st := []) (ci := 7) (q0 := 0) rfl rfl (t_X7_peek (a0 := a0) hc) Sub.same kw_623 kw_624 kw_625 kw_87 hy_X7_peek kw_626 rfl (Nat.le_of_ble_eq_true rfl) (Nat.le_of_ble_eq_true rfl) (Nat.le_of_ble_eq_true rfl) (Nat.le_of_ble_eq_true rfl) (Nat.le_of_ble_eq_true rfl) dX7_number_1 ?_
  obtain ⟨v9, hc, h⟩ := b1_of h
  refine g_callS (pc := 4) C (w' := cs_X7 J.2.2.1 a0 t_bytes t_held t_end c7 c8 t_faultKind t_faultPlace) (As := [.int v6]) (st := []) (t_X7_isDigit hc) Sub.nil kw_703 kw_704 kw_87 hy_X7_isDigit kw_705 rfl (Nat.le_of_ble_eq_true rfl) (Nat.le_of_ble_eq_true rfl) (Nat.le_of_ble_eq_true rfl) (Nat.le_of_ble_eq_true rfl) (Nat.le_of_ble_eq_true rfl) dX7_number_4 ?_
  refine g_if_ne (pc := 7) C (tgt := 17) dX7_number_7 rfl h (fun h => ?_) (fun h => ?_)
  · refine g_iconst (pc := 17) C dX7_number_17 ci_0 ?_
    refine g_istore_n (pc := 18) C [(3, .int 0), (0, .ref (a0 0)), (1, .int n1), (2, .int n2)] dX7_number_18 rfl (by decide) rfl ?_
    refine g_lv [1, 2, 3, 0] rfl ?_
    exact j_X7_number_19 C E    FU 0 c7 c8 t_faultKind t_faultPlace h
  · refine g_aload_n (pc := 10) C 0 rfl dX7_number_10 ?_
    refine g_iconst (pc := 11) C dX7_number_11 ci_1 ?_
    obtain ⟨c10, c11, hc, h⟩ := b2_of h
    refine g_callV (pc := 12) C (w' := cs_X7 J.2.2.1 a0 t_bytes t_held t_end c7 c8 c10 c11) (As := [.int 1]) (st := []) (ci := 7) (q0 := 0) rfl rfl (t_X7_blame (a0 := a0) hc) Sub.same kw_706 kw_696 kw_697 kw_87 hy_X7_blame kw_698 rfl (Nat.le_of_ble_eq_true rfl) (Nat.le_of_ble_eq_true rfl) (Nat.le_of_ble_eq_true rfl) (Nat.le_of_ble_eq_true rfl) (Nat.le_of_ble_eq_true rfl) dX7_number_12 ?_
    refine g_iconst (pc := 15) C dX7_number_15 ci_0 ?_
    cases h
    exact g_iret C E dX7_number_16
noncomputable def f_X0_read_52  (t_bytes : Nat → Int32) (t_end : Int32) (n1 : Int32) (b_last : Nat → Int32) (b_lines : Int32) (t_at : Int32) (t_start : Int32) (t_faultKind : Int32) (t_faultPlace : Int32) : Option ((Nat → Int32) × Int32 × Int32 × Int32 × Int32 × Int32) := b2 (f_X7_blame t_start t_faultKind t_faultPlace 2) (fun c1 c2 => some (b_last, b_lines, t_at, t_start, c1, c2))
noncomputable def f_X0_read_6  (t_bytes : Nat → Int32) (t_end : Int32) (n1 : Int32) : Nat → Int32 → (Nat → Int32) → Int32 → Int32 → Int32 → Int32 → Int32 → Option ((Nat → Int32) × Int32 × Int32 × Int32 × Int32 × Int32)
  | 0, _, _, _, _, _, _, _ => none
  | n + 1, x3, b_last, b_lines, t_at, t_start, t_faultKind, t_faultPlace => if 60 ≤ x3 then some (b_last, b_lines, t_at, t_start, t_faultKind, t_faultPlace) else b3 (f_X7_isAtEnd t_bytes t_end t_at t_start t_faultKind) (fun v3 c4 c5 => if v3 = 0 then b5 (f_X7_number t_bytes t_end c4 c5 t_faultKind t_faultPlace 0 (n1 - 1)) (fun v6 c7 c8 c9 c10 => if v6 < 0 then f_X0_read_52 t_bytes t_end n1 b_last b_lines c7 c8 c9 c10 else if 6 ≤ v6 then f_X0_read_52 t_bytes t_end n1 b_last b_lines c7 c8 c9 c10 else if ixb v6 6 then if (b_last v6.toNatClampNeg) = (-1) then b5 (f_X7_number t_bytes t_end c7 c8 c9 c10 0 16) (fun v11 c12 c13 c14 c15 => if ixb v6 6 then b4 (f_X7_need t_bytes t_end c12 c13 c14 c15 59) (fun c16 c17 c18 c19 => f_X0_read_6 t_bytes t_end n1 n (x3 + 1) (upd b_last v6.toNatClampNeg v11) (b_lines + 1) c16 c17 c18 c19) else none) else f_X0_read_52 t_bytes t_end n1 b_last b_lines c7 c8 c9 c10 else none) else some (b_last, b_lines, c4, c5, t_faultKind, t_faultPlace))
noncomputable def f_X0_read (b_last : Nat → Int32) (b_lines : Int32) (t_bytes : Nat → Int32) (t_end : Int32) (t_at : Int32) (t_start : Int32) (t_faultKind : Int32) (t_faultPlace : Int32) (n1 : Int32) : Option ((Nat → Int32) × Int32 × Int32 × Int32 × Int32 × Int32) := b2 (f_X0_clear b_last b_lines) (fun c20 c21 => f_X0_read_6 t_bytes t_end n1 FU 0 c20 c21 t_at t_start t_faultKind t_faultPlace)
def rm_X0_read : Room := { frames := 2, cells := 0, slots := 0, locals := 63 }
set_option maxRecDepth 100000 in
set_option maxHeartbeats 4000000 in
theorem j_X0_read_52 {J : Jt} {Z : Zt} {a0 : Nat → Nat} {a1 : Nat → Nat} {t_bytes : Nat → Int32} {t_held : Int32} {t_end : Int32} {n1 : Int32} {o_b_last : Nat → Int32} {o_b_lines : Int32} {o_t_at : Int32} {o_t_start : Int32} {o_t_faultKind : Int32} {o_t_faultPlace : Int32} (C : Cx J Z cX0_read 5 RX0 none rm_X0_read) (E : Ez J Z 0 0 none (cs_X0 J.2.2.1 a0 o_b_last o_b_lines ++ cs_X7 J.2.2.1 a1 t_bytes t_held t_end o_t_at o_t_start o_t_faultKind o_t_faultPlace)) : ∀ (b_last : Nat → Int32) (b_lines : Int32) (t_at : Int32) (t_start : Int32) (t_faultKind : Int32) (t_faultPlace : Int32), f_X0_read_52 t_bytes t_end n1 b_last b_lines t_at t_start t_faultKind t_faultPlace = some (o_b_last, o_b_lines, o_t_at, o_t_start, o_t_faultKind, o_t_faultPlace) → G J Z 0 0 (cs_X0 J.2.2.1 a0 b_last b_lines ++ cs_X7 J.2.2.1 a1 t_bytes t_held t_end t_at t_start t_faultKind t_faultPlace) 5 [(1, .ref (a1 0))] 52 [] := by
  intro b_last b_lines t_at t_start t_faultKind t_faultPlace h
  unfold f_X0_read_52 at h
  refine g_aload_n (pc := 52) C 0 rfl dX0_read_52 ?_
  refine g_iconst (pc := 53) C dX0_read_53 ci_2 ?_
  obtain ⟨c1, c2, hc, h⟩ := b2_of h
  refine g_callV (pc := 54) C (w' := cs_X0 J.2.2.1 a0 b_last b_lines ++ cs_X7 J.2.2.1 a1 t_bytes t_held t_end t_at t_start c1 c2) (As := [.int 2]) (st := []) (ci := 7) (q0 := 2) rfl rfl (t_X7_blame (a0 := a1) hc) (Sub.gen [2, 3] [0, 1] [0, 1, 2, 3] rfl (by decide) rfl (by decide) (by decide) rfl (by decide)) kw_931 kw_696 kw_697 kw_87 hy_X7_blame kw_698 rfl (Nat.le_of_ble_eq_true rfl) (Nat.le_of_ble_eq_true rfl) (Nat.le_of_ble_eq_true rfl) (Nat.le_of_ble_eq_true rfl) (Nat.le_of_ble_eq_true rfl) dX0_read_54 ?_
  cases h
  exact g_vret C E dX0_read_57
set_option maxRecDepth 100000 in
set_option maxHeartbeats 4000000 in
theorem j_X0_read_6 {J : Jt} {Z : Zt} {a0 : Nat → Nat} {a1 : Nat → Nat} {t_bytes : Nat → Int32} {t_held : Int32} {t_end : Int32} {n1 : Int32} {o_b_last : Nat → Int32} {o_b_lines : Int32} {o_t_at : Int32} {o_t_start : Int32} {o_t_faultKind : Int32} {o_t_faultPlace : Int32} (C : Cx J Z cX0_read 5 RX0 none rm_X0_read) (E : Ez J Z 0 0 none (cs_X0 J.2.2.1 a0 o_b_last o_b_lines ++ cs_X7 J.2.2.1 a1 t_bytes t_held t_end o_t_at o_t_start o_t_faultKind o_t_faultPlace)) : ∀ (n : Nat) (x3 : Int32) (b_last : Nat → Int32) (b_lines : Int32) (t_at : Int32) (t_start : Int32) (t_faultKind : Int32) (t_faultPlace : Int32), f_X0_read_6 t_bytes t_end n1 n x3 b_last b_lines t_at t_start t_faultKind t_faultPlace = some (o_b_last, o_b_lines, o_t_at, o_t_start, o_t_faultKind, o_t_faultPlace) → G J Z 0 0 (cs_X0 J.2.2.1 a0 b_last b_lines ++ cs_X7 J.2.2.1 a1 t_bytes t_held t_end t_at t_start t_faultKind t_faultPlace) 5 [(0, .ref (a0 0)), (1, .ref (a1 0)), (2, .int n1), (3, .int x3)] 6 [] := by
  intro n
  induction n with
  | zero =>
    intro x3 b_last b_lines t_at t_start t_faultKind t_faultPlace h
    rw [f_X0_read_6] at h
    cases h
  | succ n ih =>
    intro x3 b_last b_lines t_at t_start t_faultKind t_faultPlace h
    rw [f_X0_read_6] at h
    refine g_iload_n (pc := 6) C 3 rfl dX0_read_6 ?_
    refine g_bipush (pc := 7) C dX0_read_7 cb_60 ?_
    refine g_icmp_ge (pc := 9) C (tgt := 94) dX0_read_9 rfl h (fun h => ?_) (fun h => ?_)
    · cases h
      exact g_vret C E dX0_read_94
    · refine g_aload_n (pc := 12) C 1 rfl dX0_read_12 ?_
      obtain ⟨v3, c4, c5, hc, h⟩ := b3_of h
      refine g_callV (pc := 13) C (w' := cs_X0 J.2.2.1 a0 b_last b_lines ++ cs_X7 J.2.2.1 a1 t_bytes t_held t_end c4 c5 t_faultKind t_faultPlace) (As := []) (st := []) (ci := 7) (q0 := 2) rfl rfl (t_X7_isAtEnd (a0 := a1) hc) (Sub.gen [2, 3] [0, 1] [0, 1, 2, 3] rfl (by decide) rfl (by decide) (by decide) rfl (by decide)) kw_929 kw_620 kw_621 kw_87 hy_X7_isAtEnd kw_622 rfl (Nat.le_of_ble_eq_true rfl) (Nat.le_of_ble_eq_true rfl) (Nat.le_of_ble_eq_true rfl) (Nat.le_of_ble_eq_true rfl) (Nat.le_of_ble_eq_true rfl) dX0_read_13 ?_
      refine g_if_ne (pc := 16) C (tgt := 94) dX0_read_16 rfl h (fun h => ?_) (fun h => ?_)
      · cases h
        exact g_vret C E dX0_read_94
      · refine g_aload_n (pc := 19) C 1 rfl dX0_read_19 ?_
        refine g_iconst (pc := 20) C dX0_read_20 ci_0 ?_
        refine g_iload_n (pc := 21) C 2 rfl dX0_read_21 ?_
        refine g_iconst (pc := 22) C dX0_read_22 ci_1 ?_
        refine g_isub (pc := 23) C dX0_read_23 ?_
        obtain ⟨v6, c7, c8, c9, c10, hc, h⟩ := b5_of h
        refine g_callV (pc := 24) C (w' := cs_X0 J.2.2.1 a0 b_last b_lines ++ cs_X7 J.2.2.1 a1 t_bytes t_held t_end c7 c8 c9 c10) (As := [.int 0, .int (n1 - 1)]) (st := []) (ci := 7) (q0 := 2) rfl rfl (t_X7_number (a0 := a1) hc) (Sub.gen [2, 3] [0, 1] [0, 1, 2, 3] rfl (by decide) rfl (by decide) (by decide) rfl (by decide)) kw_930 kw_700 kw_701 kw_87 hy_X7_number kw_702 rfl (Nat.le_of_ble_eq_true rfl) (Nat.le_of_ble_eq_true rfl) (Nat.le_of_ble_eq_true rfl) (Nat.le_of_ble_eq_true rfl) (Nat.le_of_ble_eq_true rfl) dX0_read_24 ?_
        refine g_istore (pc := 27) C [(4, .int v6), (0, .ref (a0 0)), (1, .ref (a1 0)), (2, .int n1), (3, .int x3)] dX0_read_27 (by decide) rfl ?_
        refine g_iload (pc := 29) C 0 rfl dX0_read_29 ?_
        refine g_if_lt (pc := 31) C (tgt := 52) dX0_read_31 rfl h (fun h => ?_) (fun h => ?_)
        · refine g_lv [2] rfl ?_
          exact j_X0_read_52 C E    b_last b_lines c7 c8 c9 c10 h
        · refine g_iload (pc := 34) C 0 rfl dX0_read_34 ?_
          refine g_bipush (pc := 36) C dX0_read_36 cb_6 ?_
          refine g_icmp_ge (pc := 38) C (tgt := 52) dX0_read_38 rfl h (fun h => ?_) (fun h => ?_)
          · refine g_lv [2] rfl ?_
            exact j_X0_read_52 C E    b_last b_lines c7 c8 c9 c10 h
          · refine g_aload_n (pc := 41) C 1 rfl dX0_read_41 ?_
            refine g_get (pc := 42) C FOK_X0 0 rfl rfl 0 (by decide) kw_358 rfl dX0_read_42 ?_
            refine g_iload (pc := 45) C 0 rfl dX0_read_45 ?_
            obtain ⟨hi, h⟩ := ix_of h
            refine g_iald (pc := 47) C 1 rfl hi dX0_read_47 ?_
            refine g_iconst (pc := 48) C dX0_read_48 ci_m1 ?_
            refine g_icmp_eq (pc := 49) C (tgt := 58) dX0_read_49 rfl h (fun h => ?_) (fun h => ?_)
            · refine g_aload_n (pc := 58) C 1 rfl dX0_read_58 ?_
              refine g_get (pc := 59) C FOK_X0 0 rfl rfl 0 (by decide) kw_358 rfl dX0_read_59 ?_
              refine g_iload (pc := 62) C 0 rfl dX0_read_62 ?_
              refine g_aload_n (pc := 64) C 2 rfl dX0_read_64 ?_
              refine g_iconst (pc := 65) C dX0_read_65 ci_0 ?_
              refine g_bipush (pc := 66) C dX0_read_66 cb_16 ?_
              obtain ⟨v11, c12, c13, c14, c15, hc, h⟩ := b5_of h
              refine g_callV (pc := 68) C (w' := cs_X0 J.2.2.1 a0 b_last b_lines ++ cs_X7 J.2.2.1 a1 t_bytes t_held t_end c12 c13 c14 c15) (As := [.int 0, .int 16]) (st := [.int v6, .ref (a0 1)]) (ci := 7) (q0 := 2) rfl rfl (t_X7_number (a0 := a1) hc) (Sub.gen [2, 3] [0, 1] [0, 1, 2, 3] rfl (by decide) rfl (by decide) (by decide) rfl (by decide)) kw_930 kw_700 kw_701 kw_87 hy_X7_number kw_702 rfl (Nat.le_of_ble_eq_true rfl) (Nat.le_of_ble_eq_true rfl) (Nat.le_of_ble_eq_true rfl) (Nat.le_of_ble_eq_true rfl) (Nat.le_of_ble_eq_true rfl) dX0_read_68 ?_
              obtain ⟨hi, h⟩ := ix_of h
              refine g_iast (pc := 71) C (w' := cs_X0 J.2.2.1 a0 (upd b_last v6.toNatClampNeg v11) b_lines ++ cs_X7 J.2.2.1 a1 t_bytes t_held t_end c12 c13 c14 c15) 1 rfl hi dX0_read_71 rfl ?_
              refine g_aload_n (pc := 72) C 1 rfl dX0_read_72 ?_
              refine g_dup (pc := 73) C dX0_read_73 rfl ?_
              refine g_get (pc := 74) C FOK_X0 0 rfl rfl 1 (by decide) kw_360 rfl dX0_read_74 ?_
              refine g_iconst (pc := 77) C dX0_read_77 ci_1 ?_
              refine g_iadd (pc := 78) C dX0_read_78 ?_
              refine g_put (pc := 79) C (w' := cs_X0 J.2.2.1 a0 (upd b_last v6.toNatClampNeg v11) (b_lines + 1) ++ cs_X7 J.2.2.1 a1 t_bytes t_held t_end c12 c13 c14 c15) FOK_X0 0 rfl rfl 1 (by decide) kw_360 rfl rfl rfl (Nat.le_of_ble_eq_true rfl) dX0_read_79 rfl ?_
              refine g_aload_n (pc := 82) C 2 rfl dX0_read_82 ?_
              refine g_bipush (pc := 83) C dX0_read_83 cb_59 ?_
              obtain ⟨c16, c17, c18, c19, hc, h⟩ := b4_of h
              refine g_callV (pc := 85) C (w' := cs_X0 J.2.2.1 a0 (upd b_last v6.toNatClampNeg v11) (b_lines + 1) ++ cs_X7 J.2.2.1 a1 t_bytes t_held t_end c16 c17 c18 c19) (As := [.int 59]) (st := []) (ci := 7) (q0 := 2) rfl rfl (t_X7_need (a0 := a1) hc) (Sub.gen [2, 3] [0, 1] [0, 1, 2, 3] rfl (by decide) rfl (by decide) (by decide) rfl (by decide)) kw_932 kw_723 kw_724 kw_87 hy_X7_need kw_725 rfl (Nat.le_of_ble_eq_true rfl) (Nat.le_of_ble_eq_true rfl) (Nat.le_of_ble_eq_true rfl) (Nat.le_of_ble_eq_true rfl) (Nat.le_of_ble_eq_true rfl) dX0_read_85 ?_
              refine g_iinc (pc := 88) C (j := 4) [(3, .int (x3 + 1)), (4, .int v6), (0, .ref (a0 0)), (1, .ref (a1 0)), (2, .int n1)] dX0_read_88 rfl (ii_1 _) (by decide) rfl ?_
              refine g_goto (pc := 91) C (tgt := 6) dX0_read_91 rfl ?_
              refine g_lv [2, 3, 4, 0] rfl ?_
              exact ih (x3 + 1) (upd b_last v6.toNatClampNeg v11) (b_lines + 1) c16 c17 c18 c19 h
            · refine g_lv [2] rfl ?_
              exact j_X0_read_52 C E    b_last b_lines c7 c8 c9 c10 h
set_option maxRecDepth 100000 in
set_option maxHeartbeats 4000000 in
theorem t_X0_read {J : Jt} {a0 : Nat → Nat} {a1 : Nat → Nat} {b_last : Nat → Int32} {b_lines : Int32} {t_bytes : Nat → Int32} {t_held : Int32} {t_end : Int32} {t_at : Int32} {t_start : Int32} {t_faultKind : Int32} {t_faultPlace : Int32} {n1 : Int32} {o_b_last : Nat → Int32} {o_b_lines : Int32} {o_t_at : Int32} {o_t_start : Int32} {o_t_faultKind : Int32} {o_t_faultPlace : Int32} (h : f_X0_read b_last b_lines t_bytes t_end t_at t_start t_faultKind t_faultPlace n1 = some (o_b_last, o_b_lines, o_t_at, o_t_start, o_t_faultKind, o_t_faultPlace)) : Mt J yX0_read cX0_read 5 none rm_X0_read [.ref (a0 0), .ref (a1 0), .int n1] (cs_X0 J.2.2.1 a0 b_last b_lines ++ cs_X7 J.2.2.1 a1 t_bytes t_held t_end t_at t_start t_faultKind t_faultPlace) none (cs_X0 J.2.2.1 a0 o_b_last o_b_lines ++ cs_X7 J.2.2.1 a1 t_bytes t_held t_end o_t_at o_t_start o_t_faultKind o_t_faultPlace) := by
  refine Mt_of (own := RX0) (by decide) rfl (Nat.le_of_ble_eq_true rfl) rfl (fun Z C E => ?_)
  unfold f_X0_read at h
  show G J Z 0 0 (cs_X0 J.2.2.1 a0 b_last b_lines ++ cs_X7 J.2.2.1 a1 t_bytes t_held t_end t_at t_start t_faultKind t_faultPlace) 5 [(0, .ref (a0 0)), (1, .ref (a1 0)), (2, .int n1)] 0 []
  refine g_aload_n (pc := 0) C 0 rfl dX0_read_0 ?_
  obtain ⟨c20, c21, hc, h⟩ := b2_of h
  refine g_callV (pc := 1) C (w' := cs_X0 J.2.2.1 a0 c20 c21 ++ cs_X7 J.2.2.1 a1 t_bytes t_held t_end t_at t_start t_faultKind t_faultPlace) (As := []) (st := []) (ci := 0) (q0 := 0) rfl rfl (t_X0_clear (a0 := a0) hc) (Sub.gen [0, 1] [2, 3] [2, 3, 0, 1] rfl (by decide) rfl (by decide) (by decide) rfl (by decide)) kw_354 kw_355 kw_356 kw_94 hy_X0_clear kw_357 rfl (Nat.le_of_ble_eq_true rfl) (Nat.le_of_ble_eq_true rfl) (Nat.le_of_ble_eq_true rfl) (Nat.le_of_ble_eq_true rfl) (Nat.le_of_ble_eq_true rfl) dX0_read_1 ?_
  refine g_iconst (pc := 4) C dX0_read_4 ci_0 ?_
  refine g_istore_n (pc := 5) C [(3, .int 0), (0, .ref (a0 0)), (1, .ref (a1 0)), (2, .int n1)] dX0_read_5 rfl (by decide) rfl ?_
  refine g_lv [1, 2, 3, 0] rfl ?_
  exact j_X0_read_6 C E    FU 0 c20 c21 t_at t_start t_faultKind t_faultPlace h
noncomputable def f_X2_wordAt (p_words : Nat → Int32) (n1 : Int32) (n2 : Int32) : Option (Int32) := if n2 < 0 then some (-1) else if 8 ≤ n2 then some (-1) else if ixb ((n1 * 8) + n2) 48 then some (p_words ((n1 * 8) + n2).toNatClampNeg) else none
def rm_X2_wordAt : Room := { frames := 0, cells := 0, slots := 0, locals := 0 }
set_option maxRecDepth 100000 in
set_option maxHeartbeats 4000000 in
theorem t_X2_wordAt {J : Jt} {a0 : Nat → Nat} {p_beds : Int32} {p_letters : Int32} {p_readers : Int32} {p_far : Nat → Int32} {p_drain : Nat → Int32} {p_length : Nat → Int32} {p_words : Nat → Int32} {p_home : Nat → Int32} {n1 : Int32} {n2 : Int32} {r : Int32} (h : f_X2_wordAt p_words n1 n2 = some r) : Mt J yX2_wordAt cX2_wordAt 3 (some .int) rm_X2_wordAt [.ref (a0 0), .int n1, .int n2] (cs_X2 J.2.2.1 a0 p_beds p_letters p_readers p_far p_drain p_length p_words p_home) (some (.int r)) (cs_X2 J.2.2.1 a0 p_beds p_letters p_readers p_far p_drain p_length p_words p_home) := by
  refine Mt_of (own := RX2) (by decide) rfl (Nat.le_of_ble_eq_true rfl) rfl (fun Z C E => ?_)
  unfold f_X2_wordAt at h
  show G J Z 0 0 (cs_X2 J.2.2.1 a0 p_beds p_letters p_readers p_far p_drain p_length p_words p_home) 3 [(0, .ref (a0 0)), (1, .int n1), (2, .int n2)] 0 []
  refine g_iload_n (pc := 0) C 2 rfl dX2_wordAt_0 ?_
  refine g_if_lt (pc := 1) C (tgt := 24) dX2_wordAt_1 rfl h (fun h => ?_) (fun h => ?_)
  · refine g_iconst (pc := 24) C dX2_wordAt_24 ci_m1 ?_
    cases h
    exact g_iret C E dX2_wordAt_25
  · refine g_iload_n (pc := 4) C 2 rfl dX2_wordAt_4 ?_
    refine g_bipush (pc := 5) C dX2_wordAt_5 cb_8 ?_
    refine g_icmp_ge (pc := 7) C (tgt := 24) dX2_wordAt_7 rfl h (fun h => ?_) (fun h => ?_)
    · refine g_iconst (pc := 24) C dX2_wordAt_24 ci_m1 ?_
      cases h
      exact g_iret C E dX2_wordAt_25
    · refine g_aload_n (pc := 10) C 0 rfl dX2_wordAt_10 ?_
      refine g_get (pc := 11) C FOK_X2 0 rfl rfl 6 (by decide) kw_301 rfl dX2_wordAt_11 ?_
      refine g_iload_n (pc := 14) C 1 rfl dX2_wordAt_14 ?_
      refine g_bipush (pc := 15) C dX2_wordAt_15 cb_8 ?_
      refine g_imul (pc := 17) C dX2_wordAt_17 ?_
      refine g_iload_n (pc := 18) C 2 rfl dX2_wordAt_18 ?_
      refine g_iadd (pc := 19) C dX2_wordAt_19 ?_
      obtain ⟨hi, h⟩ := ix_of h
      refine g_iald (pc := 20) C 4 rfl hi dX2_wordAt_20 ?_
      refine g_goto (pc := 21) C (tgt := 25) dX2_wordAt_21 rfl ?_
      cases h
      exact g_iret C E dX2_wordAt_25
noncomputable def f_X4_leftOf (s_gone : Nat → Int32) (p_length : Nat → Int32) (n1 : Int32) : Option (Int32) := if ixb n1 6 then if ixb n1 6 then some ((p_length n1.toNatClampNeg) - (s_gone n1.toNatClampNeg)) else none else none
def rm_X4_leftOf : Room := { frames := 0, cells := 0, slots := 0, locals := 0 }
set_option maxRecDepth 100000 in
set_option maxHeartbeats 4000000 in
theorem t_X4_leftOf {J : Jt} {a0 : Nat → Nat} {a1 : Nat → Nat} {s_year : Int32} {s_wet : Int32} {s_lost : Int32} {s_eaten : Int32} {s_tied : Int32} {s_ripeMany : Int32} {s_gone : Nat → Int32} {s_place : Nat → Int32} {s_heard : Nat → Int32} {s_many : Nat → Int32} {s_lying : Nat → Int32} {s_ripe : Nat → Int32} {p_beds : Int32} {p_letters : Int32} {p_readers : Int32} {p_far : Nat → Int32} {p_drain : Nat → Int32} {p_length : Nat → Int32} {p_words : Nat → Int32} {p_home : Nat → Int32} {n1 : Int32} {r : Int32} (h : f_X4_leftOf s_gone p_length n1 = some r) : Mt J yX4_leftOf cX4_leftOf 3 (some .int) rm_X4_leftOf [.ref (a0 0), .ref (a1 0), .int n1] (cs_X4 J.2.2.1 a0 s_year s_wet s_lost s_eaten s_tied s_ripeMany s_gone s_place s_heard s_many s_lying s_ripe ++ cs_X2 J.2.2.1 a1 p_beds p_letters p_readers p_far p_drain p_length p_words p_home) (some (.int r)) (cs_X4 J.2.2.1 a0 s_year s_wet s_lost s_eaten s_tied s_ripeMany s_gone s_place s_heard s_many s_lying s_ripe ++ cs_X2 J.2.2.1 a1 p_beds p_letters p_readers p_far p_drain p_length p_words p_home) := by
  refine Mt_of (own := RX4) (by decide) rfl (Nat.le_of_ble_eq_true rfl) rfl (fun Z C E => ?_)
  unfold f_X4_leftOf at h
  show G J Z 0 0 (cs_X4 J.2.2.1 a0 s_year s_wet s_lost s_eaten s_tied s_ripeMany s_gone s_place s_heard s_many s_lying s_ripe ++ cs_X2 J.2.2.1 a1 p_beds p_letters p_readers p_far p_drain p_length p_words p_home) 3 [(0, .ref (a0 0)), (1, .ref (a1 0)), (2, .int n1)] 0 []
  refine g_aload_n (pc := 0) C 1 rfl dX4_leftOf_0 ?_
  refine g_get (pc := 1) C FOK_X2 7 rfl rfl 5 (by decide) kw_299 rfl dX4_leftOf_1 ?_
  refine g_iload_n (pc := 4) C 2 rfl dX4_leftOf_4 ?_
  obtain ⟨hi, h⟩ := ix_of h
  refine g_iald (pc := 5) C 10 rfl hi dX4_leftOf_5 ?_
  refine g_aload_n (pc := 6) C 0 rfl dX4_leftOf_6 ?_
  refine g_get (pc := 7) C FOK_X4 0 rfl rfl 6 (by decide) kw_167 rfl dX4_leftOf_7 ?_
  refine g_iload_n (pc := 10) C 2 rfl dX4_leftOf_10 ?_
  obtain ⟨hi, h⟩ := ix_of h
  refine g_iald (pc := 11) C 1 rfl hi dX4_leftOf_11 ?_
  refine g_isub (pc := 12) C dX4_leftOf_12 ?_
  cases h
  exact g_iret C E dX4_leftOf_13
noncomputable def f_X4_lyingAt (s_many : Nat → Int32) (s_lying : Nat → Int32) (n1 : Int32) (n2 : Int32) : Option (Int32) := if n2 < 0 then some (-1) else if ixb n1 6 then if (s_many n1.toNatClampNeg) ≤ n2 then some (-1) else if 12 ≤ n2 then some (-1) else if ixb ((n1 * 12) + n2) 72 then some (s_lying ((n1 * 12) + n2).toNatClampNeg) else none else none
def rm_X4_lyingAt : Room := { frames := 0, cells := 0, slots := 0, locals := 0 }
set_option maxRecDepth 100000 in
set_option maxHeartbeats 4000000 in
theorem t_X4_lyingAt {J : Jt} {a0 : Nat → Nat} {s_year : Int32} {s_wet : Int32} {s_lost : Int32} {s_eaten : Int32} {s_tied : Int32} {s_ripeMany : Int32} {s_gone : Nat → Int32} {s_place : Nat → Int32} {s_heard : Nat → Int32} {s_many : Nat → Int32} {s_lying : Nat → Int32} {s_ripe : Nat → Int32} {n1 : Int32} {n2 : Int32} {r : Int32} (h : f_X4_lyingAt s_many s_lying n1 n2 = some r) : Mt J yX4_lyingAt cX4_lyingAt 3 (some .int) rm_X4_lyingAt [.ref (a0 0), .int n1, .int n2] (cs_X4 J.2.2.1 a0 s_year s_wet s_lost s_eaten s_tied s_ripeMany s_gone s_place s_heard s_many s_lying s_ripe) (some (.int r)) (cs_X4 J.2.2.1 a0 s_year s_wet s_lost s_eaten s_tied s_ripeMany s_gone s_place s_heard s_many s_lying s_ripe) := by
  refine Mt_of (own := RX4) (by decide) rfl (Nat.le_of_ble_eq_true rfl) rfl (fun Z C E => ?_)
  unfold f_X4_lyingAt at h
  show G J Z 0 0 (cs_X4 J.2.2.1 a0 s_year s_wet s_lost s_eaten s_tied s_ripeMany s_gone s_place s_heard s_many s_lying s_ripe) 3 [(0, .ref (a0 0)), (1, .int n1), (2, .int n2)] 0 []
  refine g_iload_n (pc := 0) C 2 rfl dX4_lyingAt_0 ?_
  refine g_if_lt (pc := 1) C (tgt := 34) dX4_lyingAt_1 rfl h (fun h => ?_) (fun h => ?_)
  · refine g_iconst (pc := 34) C dX4_lyingAt_34 ci_m1 ?_
    cases h
    exact g_iret C E dX4_lyingAt_35
  · refine g_iload_n (pc := 4) C 2 rfl dX4_lyingAt_4 ?_
    refine g_aload_n (pc := 5) C 0 rfl dX4_lyingAt_5 ?_
    refine g_get (pc := 6) C FOK_X4 0 rfl rfl 9 (by decide) kw_172 rfl dX4_lyingAt_6 ?_
    refine g_iload_n (pc := 9) C 1 rfl dX4_lyingAt_9 ?_
    obtain ⟨hi, h⟩ := ix_of h
    refine g_iald (pc := 10) C 4 rfl hi dX4_lyingAt_10 ?_
    refine g_icmp_ge (pc := 11) C (tgt := 34) dX4_lyingAt_11 rfl h (fun h => ?_) (fun h => ?_)
    · refine g_iconst (pc := 34) C dX4_lyingAt_34 ci_m1 ?_
      cases h
      exact g_iret C E dX4_lyingAt_35
    · refine g_iload_n (pc := 14) C 2 rfl dX4_lyingAt_14 ?_
      refine g_bipush (pc := 15) C dX4_lyingAt_15 cb_12 ?_
      refine g_icmp_ge (pc := 17) C (tgt := 34) dX4_lyingAt_17 rfl h (fun h => ?_) (fun h => ?_)
      · refine g_iconst (pc := 34) C dX4_lyingAt_34 ci_m1 ?_
        cases h
        exact g_iret C E dX4_lyingAt_35
      · refine g_aload_n (pc := 20) C 0 rfl dX4_lyingAt_20 ?_
        refine g_get (pc := 21) C FOK_X4 0 rfl rfl 10 (by decide) kw_174 rfl dX4_lyingAt_21 ?_
        refine g_iload_n (pc := 24) C 1 rfl dX4_lyingAt_24 ?_
        refine g_bipush (pc := 25) C dX4_lyingAt_25 cb_12 ?_
        refine g_imul (pc := 27) C dX4_lyingAt_27 ?_
        refine g_iload_n (pc := 28) C 2 rfl dX4_lyingAt_28 ?_
        refine g_iadd (pc := 29) C dX4_lyingAt_29 ?_
        obtain ⟨hi, h⟩ := ix_of h
        refine g_iald (pc := 30) C 5 rfl hi dX4_lyingAt_30 ?_
        refine g_goto (pc := 31) C (tgt := 35) dX4_lyingAt_31 rfl ?_
        cases h
        exact g_iret C E dX4_lyingAt_35
noncomputable def f_X4_lastAfter_61  (s_gone : Nat → Int32) (s_many : Nat → Int32) (s_lying : Nat → Int32) (p_drain : Nat → Int32) (p_length : Nat → Int32) (p_words : Nat → Int32) (n1 : Int32) (n2 : Int32) (n3 : Int32)  : Option (Int32) := if ixb n1 6 then if (s_many n1.toNatClampNeg) ≤ 0 then some 16 else if ixb n1 6 then b1 (f_X4_lyingAt s_many s_lying n1 ((s_many n1.toNatClampNeg) - 1)) (fun v1 => some v1) else none else none
noncomputable def f_X4_lastAfter (s_gone : Nat → Int32) (s_many : Nat → Int32) (s_lying : Nat → Int32) (p_drain : Nat → Int32) (p_length : Nat → Int32) (p_words : Nat → Int32) (n1 : Int32) (n2 : Int32) (n3 : Int32) : Option (Int32) := if ixb n2 6 then if (p_drain n2.toNatClampNeg) = n1 then b1 (f_X4_leftOf s_gone p_length n2) (fun v2 => if ixb n1 6 then if (imin (imin n3 v2) (12 - (s_many n1.toNatClampNeg))) ≤ 0 then f_X4_lastAfter_61 s_gone s_many s_lying p_drain p_length p_words n1 n2 n3 else if ixb n2 6 then b1 (f_X2_wordAt p_words n2 (((s_gone n2.toNatClampNeg) + (imin (imin n3 v2) (12 - (s_many n1.toNatClampNeg)))) - 1)) (fun v3 => some v3) else none else none) else f_X4_lastAfter_61 s_gone s_many s_lying p_drain p_length p_words n1 n2 n3 else none
def rm_X4_lastAfter : Room := { frames := 1, cells := 0, slots := 0, locals := 40 }
set_option maxRecDepth 100000 in
set_option maxHeartbeats 4000000 in
theorem j_X4_lastAfter_61 {J : Jt} {Z : Zt} {a0 : Nat → Nat} {a1 : Nat → Nat} {s_year : Int32} {s_wet : Int32} {s_lost : Int32} {s_eaten : Int32} {s_tied : Int32} {s_ripeMany : Int32} {s_gone : Nat → Int32} {s_place : Nat → Int32} {s_heard : Nat → Int32} {s_many : Nat → Int32} {s_lying : Nat → Int32} {s_ripe : Nat → Int32} {p_beds : Int32} {p_letters : Int32} {p_readers : Int32} {p_far : Nat → Int32} {p_drain : Nat → Int32} {p_length : Nat → Int32} {p_words : Nat → Int32} {p_home : Nat → Int32} {n1 : Int32} {n2 : Int32} {n3 : Int32} {r : Int32} (C : Cx J Z cX4_lastAfter 7 RX4 (some .int) rm_X4_lastAfter) (E : Ez J Z 0 0 (some (.int r)) (cs_X4 J.2.2.1 a0 s_year s_wet s_lost s_eaten s_tied s_ripeMany s_gone s_place s_heard s_many s_lying s_ripe ++ cs_X2 J.2.2.1 a1 p_beds p_letters p_readers p_far p_drain p_length p_words p_home)) : f_X4_lastAfter_61 s_gone s_many s_lying p_drain p_length p_words n1 n2 n3 = some r → G J Z 0 0 (cs_X4 J.2.2.1 a0 s_year s_wet s_lost s_eaten s_tied s_ripeMany s_gone s_place s_heard s_many s_lying s_ripe ++ cs_X2 J.2.2.1 a1 p_beds p_letters p_readers p_far p_drain p_length p_words p_home) 7 [(0, .ref (a0 0)), (2, .int n1)] 61 [] := by
  intro  h
  unfold f_X4_lastAfter_61 at h
  refine g_aload_n (pc := 61) C 0 rfl dX4_lastAfter_61 ?_
  refine g_get (pc := 62) C FOK_X4 0 rfl rfl 9 (by decide) kw_172 rfl dX4_lastAfter_62 ?_
  refine g_iload_n (pc := 65) C 1 rfl dX4_lastAfter_65 ?_
  obtain ⟨hi, h⟩ := ix_of h
  refine g_iald (pc := 66) C 4 rfl hi dX4_lastAfter_66 ?_
  refine g_if_le (pc := 67) C (tgt := 86) dX4_lastAfter_67 rfl h (fun h => ?_) (fun h => ?_)
  · refine g_bipush (pc := 86) C dX4_lastAfter_86 cb_16 ?_
    cases h
    exact g_iret C E dX4_lastAfter_88
  · refine g_aload_n (pc := 70) C 0 rfl dX4_lastAfter_70 ?_
    refine g_iload_n (pc := 71) C 1 rfl dX4_lastAfter_71 ?_
    refine g_aload_n (pc := 72) C 0 rfl dX4_lastAfter_72 ?_
    refine g_get (pc := 73) C FOK_X4 0 rfl rfl 9 (by decide) kw_172 rfl dX4_lastAfter_73 ?_
    refine g_iload_n (pc := 76) C 1 rfl dX4_lastAfter_76 ?_
    obtain ⟨hi, h⟩ := ix_of h
    refine g_iald (pc := 77) C 4 rfl hi dX4_lastAfter_77 ?_
    refine g_iconst (pc := 78) C dX4_lastAfter_78 ci_1 ?_
    refine g_isub (pc := 79) C dX4_lastAfter_79 ?_
    obtain ⟨v1, hc, h⟩ := b1_of h
    refine g_callV (pc := 80) C (w' := cs_X4 J.2.2.1 a0 s_year s_wet s_lost s_eaten s_tied s_ripeMany s_gone s_place s_heard s_many s_lying s_ripe ++ cs_X2 J.2.2.1 a1 p_beds p_letters p_readers p_far p_drain p_length p_words p_home) (As := [.int n1, .int ((s_many n1.toNatClampNeg) - 1)]) (st := []) (ci := 4) (q0 := 0) rfl rfl (t_X4_lyingAt (a0 := a0) hc) (Sub.gen [0, 1, 2, 3, 4, 5, 6] [7, 8, 9, 10, 11, 12] [6, 7, 8, 9, 10, 11, 12, 0, 1, 2, 3, 4, 5] rfl (by decide) rfl (by decide) (by decide) rfl (by decide)) kw_873 kw_874 kw_875 kw_88 hy_X4_lyingAt kw_876 rfl (Nat.le_of_ble_eq_true rfl) (Nat.le_of_ble_eq_true rfl) (Nat.le_of_ble_eq_true rfl) (Nat.le_of_ble_eq_true rfl) (Nat.le_of_ble_eq_true rfl) dX4_lastAfter_80 ?_
    refine g_goto (pc := 83) C (tgt := 88) dX4_lastAfter_83 rfl ?_
    cases h
    exact g_iret C E dX4_lastAfter_88
set_option maxRecDepth 100000 in
set_option maxHeartbeats 4000000 in
theorem t_X4_lastAfter {J : Jt} {a0 : Nat → Nat} {a1 : Nat → Nat} {s_year : Int32} {s_wet : Int32} {s_lost : Int32} {s_eaten : Int32} {s_tied : Int32} {s_ripeMany : Int32} {s_gone : Nat → Int32} {s_place : Nat → Int32} {s_heard : Nat → Int32} {s_many : Nat → Int32} {s_lying : Nat → Int32} {s_ripe : Nat → Int32} {p_beds : Int32} {p_letters : Int32} {p_readers : Int32} {p_far : Nat → Int32} {p_drain : Nat → Int32} {p_length : Nat → Int32} {p_words : Nat → Int32} {p_home : Nat → Int32} {n1 : Int32} {n2 : Int32} {n3 : Int32} {r : Int32} (h : f_X4_lastAfter s_gone s_many s_lying p_drain p_length p_words n1 n2 n3 = some r) : Mt J yX4_lastAfter cX4_lastAfter 7 (some .int) rm_X4_lastAfter [.ref (a0 0), .ref (a1 0), .int n1, .int n2, .int n3] (cs_X4 J.2.2.1 a0 s_year s_wet s_lost s_eaten s_tied s_ripeMany s_gone s_place s_heard s_many s_lying s_ripe ++ cs_X2 J.2.2.1 a1 p_beds p_letters p_readers p_far p_drain p_length p_words p_home) (some (.int r)) (cs_X4 J.2.2.1 a0 s_year s_wet s_lost s_eaten s_tied s_ripeMany s_gone s_place s_heard s_many s_lying s_ripe ++ cs_X2 J.2.2.1 a1 p_beds p_letters p_readers p_far p_drain p_length p_words p_home) := by
  refine Mt_of (own := RX4) (by decide) rfl (Nat.le_of_ble_eq_true rfl) rfl (fun Z C E => ?_)
  unfold f_X4_lastAfter at h
  show G J Z 0 0 (cs_X4 J.2.2.1 a0 s_year s_wet s_lost s_eaten s_tied s_ripeMany s_gone s_place s_heard s_many s_lying s_ripe ++ cs_X2 J.2.2.1 a1 p_beds p_letters p_readers p_far p_drain p_length p_words p_home) 7 [(0, .ref (a0 0)), (1, .ref (a1 0)), (2, .int n1), (3, .int n2), (4, .int n3)] 0 []
  refine g_aload_n (pc := 0) C 1 rfl dX4_lastAfter_0 ?_
  refine g_get (pc := 1) C FOK_X2 7 rfl rfl 4 (by decide) kw_296 rfl dX4_lastAfter_1 ?_
  refine g_iload_n (pc := 4) C 3 rfl dX4_lastAfter_4 ?_
  obtain ⟨hi, h⟩ := ix_of h
  refine g_iald (pc := 5) C 9 rfl hi dX4_lastAfter_5 ?_
  refine g_iload_n (pc := 6) C 2 rfl dX4_lastAfter_6 ?_
  refine g_icmp_ne (pc := 7) C (tgt := 61) dX4_lastAfter_7 rfl h (fun h => ?_) (fun h => ?_)
  · refine g_lv [0, 2] rfl ?_
    exact j_X4_lastAfter_61 C E     h
  · refine g_iload (pc := 10) C 4 rfl dX4_lastAfter_10 ?_
    refine g_aload_n (pc := 12) C 0 rfl dX4_lastAfter_12 ?_
    refine g_aload_n (pc := 13) C 1 rfl dX4_lastAfter_13 ?_
    refine g_iload_n (pc := 14) C 3 rfl dX4_lastAfter_14 ?_
    obtain ⟨v2, hc, h⟩ := b1_of h
    refine g_callV (pc := 15) C (w' := cs_X4 J.2.2.1 a0 s_year s_wet s_lost s_eaten s_tied s_ripeMany s_gone s_place s_heard s_many s_lying s_ripe ++ cs_X2 J.2.2.1 a1 p_beds p_letters p_readers p_far p_drain p_length p_words p_home) (As := [.ref (a1 0), .int n2]) (st := [.int n3]) (ci := 4) (q0 := 0) rfl rfl (t_X4_leftOf (a0 := a0) (a1 := a1) hc) Sub.same kw_476 kw_465 kw_466 kw_88 hy_X4_leftOf kw_467 rfl (Nat.le_of_ble_eq_true rfl) (Nat.le_of_ble_eq_true rfl) (Nat.le_of_ble_eq_true rfl) (Nat.le_of_ble_eq_true rfl) (Nat.le_of_ble_eq_true rfl) dX4_lastAfter_15 ?_
    refine g_imin (pc := 18) C kw_889 kw_543 kw_96 kw_544 (Nat.le_of_ble_eq_true rfl) (Nat.le_of_ble_eq_true rfl) (Nat.le_of_ble_eq_true rfl) (Nat.le_of_ble_eq_true rfl) dX4_lastAfter_18 ?_
    refine g_istore (pc := 21) C [(5, .int (imin n3 v2)), (0, .ref (a0 0)), (1, .ref (a1 0)), (2, .int n1), (3, .int n2), (4, .int n3)] dX4_lastAfter_21 (by decide) rfl ?_
    refine g_iload (pc := 23) C 0 rfl dX4_lastAfter_23 ?_
    refine g_bipush (pc := 25) C dX4_lastAfter_25 cb_12 ?_
    refine g_aload_n (pc := 27) C 1 rfl dX4_lastAfter_27 ?_
    refine g_get (pc := 28) C FOK_X4 0 rfl rfl 9 (by decide) kw_172 rfl dX4_lastAfter_28 ?_
    refine g_iload_n (pc := 31) C 3 rfl dX4_lastAfter_31 ?_
    obtain ⟨hi, h⟩ := ix_of h
    refine g_iald (pc := 32) C 4 rfl hi dX4_lastAfter_32 ?_
    refine g_isub (pc := 33) C dX4_lastAfter_33 ?_
    refine g_imin (pc := 34) C kw_889 kw_543 kw_96 kw_544 (Nat.le_of_ble_eq_true rfl) (Nat.le_of_ble_eq_true rfl) (Nat.le_of_ble_eq_true rfl) (Nat.le_of_ble_eq_true rfl) dX4_lastAfter_34 ?_
    refine g_istore (pc := 37) C [(6, .int (imin (imin n3 v2) (12 - (s_many n1.toNatClampNeg)))), (5, .int (imin n3 v2)), (0, .ref (a0 0)), (1, .ref (a1 0)), (2, .int n1), (3, .int n2), (4, .int n3)] dX4_lastAfter_37 (by decide) rfl ?_
    refine g_iload (pc := 39) C 0 rfl dX4_lastAfter_39 ?_
    refine g_if_le (pc := 41) C (tgt := 61) dX4_lastAfter_41 rfl h (fun h => ?_) (fun h => ?_)
    · refine g_lv [2, 4] rfl ?_
      exact j_X4_lastAfter_61 C E     h
    · refine g_aload_n (pc := 44) C 3 rfl dX4_lastAfter_44 ?_
      refine g_iload_n (pc := 45) C 5 rfl dX4_lastAfter_45 ?_
      refine g_aload_n (pc := 46) C 2 rfl dX4_lastAfter_46 ?_
      refine g_get (pc := 47) C FOK_X4 0 rfl rfl 6 (by decide) kw_167 rfl dX4_lastAfter_47 ?_
      refine g_iload_n (pc := 50) C 5 rfl dX4_lastAfter_50 ?_
      obtain ⟨hi, h⟩ := ix_of h
      refine g_iald (pc := 51) C 1 rfl hi dX4_lastAfter_51 ?_
      refine g_iload (pc := 52) C 0 rfl dX4_lastAfter_52 ?_
      refine g_iadd (pc := 54) C dX4_lastAfter_54 ?_
      refine g_iconst (pc := 55) C dX4_lastAfter_55 ci_1 ?_
      refine g_isub (pc := 56) C dX4_lastAfter_56 ?_
      obtain ⟨v3, hc, h⟩ := b1_of h
      refine g_callV (pc := 57) C (w' := cs_X4 J.2.2.1 a0 s_year s_wet s_lost s_eaten s_tied s_ripeMany s_gone s_place s_heard s_many s_lying s_ripe ++ cs_X2 J.2.2.1 a1 p_beds p_letters p_readers p_far p_drain p_length p_words p_home) (As := [.int n2, .int (((s_gone n2.toNatClampNeg) + (imin (imin n3 v2) (12 - (s_many n1.toNatClampNeg)))) - 1)]) (st := []) (ci := 2) (q0 := 7) rfl rfl (t_X2_wordAt (a0 := a1) hc) (Sub.gen [7, 8, 9, 10, 11, 12] [0, 1, 2, 3, 4, 5, 6] [0, 1, 2, 3, 4, 5, 6, 7, 8, 9, 10, 11, 12] rfl (by decide) rfl (by decide) (by decide) rfl (by decide)) kw_477 kw_469 kw_470 kw_92 hy_X2_wordAt kw_471 rfl (Nat.le_of_ble_eq_true rfl) (Nat.le_of_ble_eq_true rfl) (Nat.le_of_ble_eq_true rfl) (Nat.le_of_ble_eq_true rfl) (Nat.le_of_ble_eq_true rfl) dX4_lastAfter_57 ?_
      cases h
      exact g_iret C E dX4_lastAfter_60
noncomputable def f_X0_isRight_3  (b_last : Nat → Int32) (s_gone : Nat → Int32) (s_many : Nat → Int32) (s_lying : Nat → Int32) (p_beds : Int32) (p_drain : Nat → Int32) (p_length : Nat → Int32) (p_words : Nat → Int32) (n1 : Int32) (n2 : Int32) : Nat → Int32 → Option (Int32)
  | 0, _ => none
  | n + 1, x5 => if p_beds ≤ x5 then some 1 else if ixb x5 6 then if (b_last x5.toNatClampNeg) = (-1) then f_X0_isRight_3 b_last s_gone s_many s_lying p_beds p_drain p_length p_words n1 n2 n (x5 + 1) else if ixb x5 6 then b1 (f_X4_lastAfter s_gone s_many s_lying p_drain p_length p_words x5 n1 n2) (fun v1 => if (b_last x5.toNatClampNeg) = v1 then f_X0_isRight_3 b_last s_gone s_many s_lying p_beds p_drain p_length p_words n1 n2 n (x5 + 1) else some 0) else none else none
noncomputable def f_X0_isRight (b_last : Nat → Int32) (s_gone : Nat → Int32) (s_many : Nat → Int32) (s_lying : Nat → Int32) (p_beds : Int32) (p_drain : Nat → Int32) (p_length : Nat → Int32) (p_words : Nat → Int32) (n1 : Int32) (n2 : Int32) : Option (Int32) := f_X0_isRight_3 b_last s_gone s_many s_lying p_beds p_drain p_length p_words n1 n2 FU 0
def rm_X0_isRight : Room := { frames := 2, cells := 0, slots := 0, locals := 66 }
set_option maxRecDepth 100000 in
set_option maxHeartbeats 4000000 in
theorem j_X0_isRight_3 {J : Jt} {Z : Zt} {a0 : Nat → Nat} {a1 : Nat → Nat} {a2 : Nat → Nat} {b_last : Nat → Int32} {b_lines : Int32} {s_year : Int32} {s_wet : Int32} {s_lost : Int32} {s_eaten : Int32} {s_tied : Int32} {s_ripeMany : Int32} {s_gone : Nat → Int32} {s_place : Nat → Int32} {s_heard : Nat → Int32} {s_many : Nat → Int32} {s_lying : Nat → Int32} {s_ripe : Nat → Int32} {p_beds : Int32} {p_letters : Int32} {p_readers : Int32} {p_far : Nat → Int32} {p_drain : Nat → Int32} {p_length : Nat → Int32} {p_words : Nat → Int32} {p_home : Nat → Int32} {n1 : Int32} {n2 : Int32} {r : Int32} (C : Cx J Z cX0_isRight 6 RX0 (some .boolean) rm_X0_isRight) (E : Ez J Z 0 0 (some (.int r)) (cs_X0 J.2.2.1 a0 b_last b_lines ++ cs_X4 J.2.2.1 a1 s_year s_wet s_lost s_eaten s_tied s_ripeMany s_gone s_place s_heard s_many s_lying s_ripe ++ cs_X2 J.2.2.1 a2 p_beds p_letters p_readers p_far p_drain p_length p_words p_home)) : ∀ (n : Nat) (x5 : Int32), f_X0_isRight_3 b_last s_gone s_many s_lying p_beds p_drain p_length p_words n1 n2 n x5 = some r → G J Z 0 0 (cs_X0 J.2.2.1 a0 b_last b_lines ++ cs_X4 J.2.2.1 a1 s_year s_wet s_lost s_eaten s_tied s_ripeMany s_gone s_place s_heard s_many s_lying s_ripe ++ cs_X2 J.2.2.1 a2 p_beds p_letters p_readers p_far p_drain p_length p_words p_home) 6 [(0, .ref (a0 0)), (1, .ref (a1 0)), (2, .ref (a2 0)), (3, .int n1), (4, .int n2), (5, .int x5)] 3 [] := by
  intro n
  induction n with
  | zero =>
    intro x5 h
    rw [f_X0_isRight_3] at h
    cases h
  | succ n ih =>
    intro x5 h
    rw [f_X0_isRight_3] at h
    refine g_iload (pc := 3) C 5 rfl dX0_isRight_3 ?_
    refine g_aload_n (pc := 5) C 2 rfl dX0_isRight_5 ?_
    refine g_get (pc := 6) C FOK_X2 9 rfl rfl 0 (by decide) kw_277 rfl dX0_isRight_6 ?_
    refine g_icmp_ge (pc := 9) C (tgt := 51) dX0_isRight_9 rfl h (fun h => ?_) (fun h => ?_)
    · refine g_iconst (pc := 51) C dX0_isRight_51 ci_1 ?_
      cases h
      exact g_zret C rfl E dX0_isRight_52
    · refine g_aload_n (pc := 12) C 0 rfl dX0_isRight_12 ?_
      refine g_get (pc := 13) C FOK_X0 0 rfl rfl 0 (by decide) kw_358 rfl dX0_isRight_13 ?_
      refine g_iload (pc := 16) C 5 rfl dX0_isRight_16 ?_
      obtain ⟨hi, h⟩ := ix_of h
      refine g_iald (pc := 18) C 1 rfl hi dX0_isRight_18 ?_
      refine g_iconst (pc := 19) C dX0_isRight_19 ci_m1 ?_
      refine g_icmp_eq (pc := 20) C (tgt := 45) dX0_isRight_20 rfl h (fun h => ?_) (fun h => ?_)
      · refine g_iinc (pc := 45) C (j := 5) [(5, .int (x5 + 1)), (0, .ref (a0 0)), (1, .ref (a1 0)), (2, .ref (a2 0)), (3, .int n1), (4, .int n2)] dX0_isRight_45 rfl (ii_1 _) (by decide) rfl ?_
        refine g_goto (pc := 48) C (tgt := 3) dX0_isRight_48 rfl ?_
        refine g_lv [1, 2, 3, 4, 5, 0] rfl ?_
        exact ih (x5 + 1) h
      · refine g_aload_n (pc := 23) C 0 rfl dX0_isRight_23 ?_
        refine g_get (pc := 24) C FOK_X0 0 rfl rfl 0 (by decide) kw_358 rfl dX0_isRight_24 ?_
        refine g_iload (pc := 27) C 5 rfl dX0_isRight_27 ?_
        obtain ⟨hi, h⟩ := ix_of h
        refine g_iald (pc := 29) C 1 rfl hi dX0_isRight_29 ?_
        refine g_aload_n (pc := 30) C 1 rfl dX0_isRight_30 ?_
        refine g_aload_n (pc := 31) C 2 rfl dX0_isRight_31 ?_
        refine g_iload (pc := 32) C 5 rfl dX0_isRight_32 ?_
        refine g_iload_n (pc := 34) C 3 rfl dX0_isRight_34 ?_
        refine g_iload (pc := 35) C 4 rfl dX0_isRight_35 ?_
        obtain ⟨v1, hc, h⟩ := b1_of h
        refine g_callV (pc := 37) C (w' := cs_X0 J.2.2.1 a0 b_last b_lines ++ cs_X4 J.2.2.1 a1 s_year s_wet s_lost s_eaten s_tied s_ripeMany s_gone s_place s_heard s_many s_lying s_ripe ++ cs_X2 J.2.2.1 a2 p_beds p_letters p_readers p_far p_drain p_length p_words p_home) (As := [.ref (a2 0), .int x5, .int n1, .int n2]) (st := [.int (b_last x5.toNatClampNeg)]) (ci := 4) (q0 := 2) rfl rfl (t_X4_lastAfter (a0 := a1) (a1 := a2) hc) (Sub.gen [2, 3, 4, 5, 6, 7, 8, 9, 10, 11, 12, 13, 14] [0, 1] [0, 1, 2, 3, 4, 5, 6, 7, 8, 9, 10, 11, 12, 13, 14] rfl (by decide) rfl (by decide) (by decide) rfl (by decide)) kw_1105 kw_1106 kw_1107 kw_88 hy_X4_lastAfter kw_1108 rfl (Nat.le_of_ble_eq_true rfl) (Nat.le_of_ble_eq_true rfl) (Nat.le_of_ble_eq_true rfl) (Nat.le_of_ble_eq_true rfl) (Nat.le_of_ble_eq_true rfl) dX0_isRight_37 ?_
        refine g_icmp_eq (pc := 40) C (tgt := 45) dX0_isRight_40 rfl h (fun h => ?_) (fun h => ?_)
        · refine g_iinc (pc := 45) C (j := 5) [(5, .int (x5 + 1)), (0, .ref (a0 0)), (1, .ref (a1 0)), (2, .ref (a2 0)), (3, .int n1), (4, .int n2)] dX0_isRight_45 rfl (ii_1 _) (by decide) rfl ?_
          refine g_goto (pc := 48) C (tgt := 3) dX0_isRight_48 rfl ?_
          refine g_lv [1, 2, 3, 4, 5, 0] rfl ?_
          exact ih (x5 + 1) h
        · refine g_iconst (pc := 43) C dX0_isRight_43 ci_0 ?_
          cases h
          exact g_zret C rfl E dX0_isRight_44
set_option maxRecDepth 100000 in
set_option maxHeartbeats 4000000 in
theorem t_X0_isRight {J : Jt} {a0 : Nat → Nat} {a1 : Nat → Nat} {a2 : Nat → Nat} {b_last : Nat → Int32} {b_lines : Int32} {s_year : Int32} {s_wet : Int32} {s_lost : Int32} {s_eaten : Int32} {s_tied : Int32} {s_ripeMany : Int32} {s_gone : Nat → Int32} {s_place : Nat → Int32} {s_heard : Nat → Int32} {s_many : Nat → Int32} {s_lying : Nat → Int32} {s_ripe : Nat → Int32} {p_beds : Int32} {p_letters : Int32} {p_readers : Int32} {p_far : Nat → Int32} {p_drain : Nat → Int32} {p_length : Nat → Int32} {p_words : Nat → Int32} {p_home : Nat → Int32} {n1 : Int32} {n2 : Int32} {r : Int32} (h : f_X0_isRight b_last s_gone s_many s_lying p_beds p_drain p_length p_words n1 n2 = some r) : Mt J yX0_isRight cX0_isRight 6 (some .boolean) rm_X0_isRight [.ref (a0 0), .ref (a1 0), .ref (a2 0), .int n1, .int n2] (cs_X0 J.2.2.1 a0 b_last b_lines ++ cs_X4 J.2.2.1 a1 s_year s_wet s_lost s_eaten s_tied s_ripeMany s_gone s_place s_heard s_many s_lying s_ripe ++ cs_X2 J.2.2.1 a2 p_beds p_letters p_readers p_far p_drain p_length p_words p_home) (some (.int r)) (cs_X0 J.2.2.1 a0 b_last b_lines ++ cs_X4 J.2.2.1 a1 s_year s_wet s_lost s_eaten s_tied s_ripeMany s_gone s_place s_heard s_many s_lying s_ripe ++ cs_X2 J.2.2.1 a2 p_beds p_letters p_readers p_far p_drain p_length p_words p_home) := by
  refine Mt_of (own := RX0) (by decide) rfl (Nat.le_of_ble_eq_true rfl) rfl (fun Z C E => ?_)
  unfold f_X0_isRight at h
  show G J Z 0 0 (cs_X0 J.2.2.1 a0 b_last b_lines ++ cs_X4 J.2.2.1 a1 s_year s_wet s_lost s_eaten s_tied s_ripeMany s_gone s_place s_heard s_many s_lying s_ripe ++ cs_X2 J.2.2.1 a2 p_beds p_letters p_readers p_far p_drain p_length p_words p_home) 6 [(0, .ref (a0 0)), (1, .ref (a1 0)), (2, .ref (a2 0)), (3, .int n1), (4, .int n2)] 0 []
  refine g_iconst (pc := 0) C dX0_isRight_0 ci_0 ?_
  refine g_istore (pc := 1) C [(5, .int 0), (0, .ref (a0 0)), (1, .ref (a1 0)), (2, .ref (a2 0)), (3, .int n1), (4, .int n2)] dX0_isRight_1 (by decide) rfl ?_
  refine g_lv [1, 2, 3, 4, 5, 0] rfl ?_
  exact j_X0_isRight_3 C E    FU 0 h
noncomputable def f_X1_add (l_code : Nat → Int32) (l_length : Int32) (n1 : Int32) : Option ((Nat → Int32) × Int32) := if 150 ≤ l_length then some (l_code, l_length) else if ixb l_length 150 then some (upd l_code l_length.toNatClampNeg n1, l_length + 1) else none
def rm_X1_add : Room := { frames := 0, cells := 0, slots := 0, locals := 0 }
set_option maxRecDepth 100000 in
set_option maxHeartbeats 4000000 in
theorem t_X1_add {J : Jt} {a0 : Nat → Nat} {l_code : Nat → Int32} {l_values : Nat → Int32} {l_stack : Nat → Int32} {l_length : Int32} {n1 : Int32} {o_l_code : Nat → Int32} {o_l_length : Int32} (h : f_X1_add l_code l_length n1 = some (o_l_code, o_l_length)) : Mt J yX1_add cX1_add 2 none rm_X1_add [.ref (a0 0), .int n1] (cs_X1 J.2.2.1 a0 l_code l_values l_stack l_length) none (cs_X1 J.2.2.1 a0 o_l_code l_values l_stack o_l_length) := by
  refine Mt_of (own := RX1) (by decide) rfl (Nat.le_of_ble_eq_true rfl) rfl (fun Z C E => ?_)
  unfold f_X1_add at h
  show G J Z 0 0 (cs_X1 J.2.2.1 a0 l_code l_values l_stack l_length) 2 [(0, .ref (a0 0)), (1, .int n1)] 0 []
  refine g_aload_n (pc := 0) C 0 rfl dX1_add_0 ?_
  refine g_get (pc := 1) C FOK_X1 0 rfl rfl 3 (by decide) kw_338 rfl dX1_add_1 ?_
  refine g_sipush (pc := 4) C dX1_add_4 cs_150 ?_
  refine g_icmp_ge (pc := 7) C (tgt := 30) dX1_add_7 rfl h (fun h => ?_) (fun h => ?_)
  · cases h
    exact g_vret C E dX1_add_30
  · refine g_aload_n (pc := 10) C 0 rfl dX1_add_10 ?_
    refine g_get (pc := 11) C FOK_X1 0 rfl rfl 0 (by decide) kw_335 rfl dX1_add_11 ?_
    refine g_aload_n (pc := 14) C 0 rfl dX1_add_14 ?_
    refine g_get (pc := 15) C FOK_X1 0 rfl rfl 3 (by decide) kw_338 rfl dX1_add_15 ?_
    refine g_iload_n (pc := 18) C 1 rfl dX1_add_18 ?_
    obtain ⟨hi, h⟩ := ix_of h
    refine g_iast (pc := 19) C (w' := cs_X1 J.2.2.1 a0 (upd l_code l_length.toNatClampNeg n1) l_values l_stack l_length) 1 rfl hi dX1_add_19 rfl ?_
    refine g_aload_n (pc := 20) C 0 rfl dX1_add_20 ?_
    refine g_dup (pc := 21) C dX1_add_21 rfl ?_
    refine g_get (pc := 22) C FOK_X1 0 rfl rfl 3 (by decide) kw_338 rfl dX1_add_22 ?_
    refine g_iconst (pc := 25) C dX1_add_25 ci_1 ?_
    refine g_iadd (pc := 26) C dX1_add_26 ?_
    refine g_put (pc := 27) C (w' := cs_X1 J.2.2.1 a0 (upd l_code l_length.toNatClampNeg n1) l_values l_stack (l_length + 1)) FOK_X1 0 rfl rfl 3 (by decide) kw_338 rfl rfl rfl (Nat.le_of_ble_eq_true rfl) dX1_add_27 rfl ?_
    cases h
    exact g_vret C E dX1_add_30
noncomputable def f_X1_makePlain (l_code : Nat → Int32) (l_length : Int32) : Option ((Nat → Int32) × Int32) := b2 (f_X1_add l_code 0 (-1)) (fun c1 c2 => b2 (f_X1_add c1 c2 4) (fun c3 c4 => b2 (f_X1_add c3 c4 (-11)) (fun c5 c6 => b2 (f_X1_add c5 c6 1) (fun c7 c8 => b2 (f_X1_add c7 c8 (-8)) (fun c9 c10 => some (c9, c10))))))
def rm_X1_makePlain : Room := { frames := 1, cells := 0, slots := 0, locals := 21 }
set_option maxRecDepth 100000 in
set_option maxHeartbeats 4000000 in
theorem t_X1_makePlain {J : Jt} {a0 : Nat → Nat} {l_code : Nat → Int32} {l_values : Nat → Int32} {l_stack : Nat → Int32} {l_length : Int32} {o_l_code : Nat → Int32} {o_l_length : Int32} (h : f_X1_makePlain l_code l_length = some (o_l_code, o_l_length)) : Mt J yX1_makePlain cX1_makePlain 1 none rm_X1_makePlain [.ref (a0 0)] (cs_X1 J.2.2.1 a0 l_code l_values l_stack l_length) none (cs_X1 J.2.2.1 a0 o_l_code l_values l_stack o_l_length) := by
  refine Mt_of (own := RX1) (by decide) rfl (Nat.le_of_ble_eq_true rfl) rfl (fun Z C E => ?_)
  unfold f_X1_makePlain at h
  show G J Z 0 0 (cs_X1 J.2.2.1 a0 l_code l_values l_stack l_length) 1 [(0, .ref (a0 0))] 0 []
  refine g_aload_n (pc := 0) C 0 rfl dX1_makePlain_0 ?_
  refine g_iconst (pc := 1) C dX1_makePlain_1 ci_0 ?_
  refine g_put (pc := 2) C (w' := cs_X1 J.2.2.1 a0 l_code l_values l_stack 0) FOK_X1 0 rfl rfl 3 (by decide) kw_338 rfl rfl rfl (Nat.le_of_ble_eq_true rfl) dX1_makePlain_2 rfl ?_
  refine g_aload_n (pc := 5) C 0 rfl dX1_makePlain_5 ?_
  refine g_iconst (pc := 6) C dX1_makePlain_6 ci_m1 ?_
  obtain ⟨c1, c2, hc, h⟩ := b2_of h
  refine g_callV (pc := 7) C (w' := cs_X1 J.2.2.1 a0 c1 l_values l_stack c2) (As := [.int (-1)]) (st := []) (ci := 1) (q0 := 0) rfl rfl (t_X1_add (a0 := a0) hc) Sub.same kw_331 kw_332 kw_333 kw_93 hy_X1_add kw_334 rfl (Nat.le_of_ble_eq_true rfl) (Nat.le_of_ble_eq_true rfl) (Nat.le_of_ble_eq_true rfl) (Nat.le_of_ble_eq_true rfl) (Nat.le_of_ble_eq_true rfl) dX1_makePlain_7 ?_
  refine g_aload_n (pc := 10) C 0 rfl dX1_makePlain_10 ?_
  refine g_iconst (pc := 11) C dX1_makePlain_11 ci_4 ?_
  obtain ⟨c3, c4, hc, h⟩ := b2_of h
  refine g_callV (pc := 12) C (w' := cs_X1 J.2.2.1 a0 c3 l_values l_stack c4) (As := [.int 4]) (st := []) (ci := 1) (q0 := 0) rfl rfl (t_X1_add (a0 := a0) hc) Sub.same kw_331 kw_332 kw_333 kw_93 hy_X1_add kw_334 rfl (Nat.le_of_ble_eq_true rfl) (Nat.le_of_ble_eq_true rfl) (Nat.le_of_ble_eq_true rfl) (Nat.le_of_ble_eq_true rfl) (Nat.le_of_ble_eq_true rfl) dX1_makePlain_12 ?_
  refine g_aload_n (pc := 15) C 0 rfl dX1_makePlain_15 ?_
  refine g_bipush (pc := 16) C dX1_makePlain_16 cb_m11 ?_
  obtain ⟨c5, c6, hc, h⟩ := b2_of h
  refine g_callV (pc := 18) C (w' := cs_X1 J.2.2.1 a0 c5 l_values l_stack c6) (As := [.int (-11)]) (st := []) (ci := 1) (q0 := 0) rfl rfl (t_X1_add (a0 := a0) hc) Sub.same kw_331 kw_332 kw_333 kw_93 hy_X1_add kw_334 rfl (Nat.le_of_ble_eq_true rfl) (Nat.le_of_ble_eq_true rfl) (Nat.le_of_ble_eq_true rfl) (Nat.le_of_ble_eq_true rfl) (Nat.le_of_ble_eq_true rfl) dX1_makePlain_18 ?_
  refine g_aload_n (pc := 21) C 0 rfl dX1_makePlain_21 ?_
  refine g_iconst (pc := 22) C dX1_makePlain_22 ci_1 ?_
  obtain ⟨c7, c8, hc, h⟩ := b2_of h
  refine g_callV (pc := 23) C (w' := cs_X1 J.2.2.1 a0 c7 l_values l_stack c8) (As := [.int 1]) (st := []) (ci := 1) (q0 := 0) rfl rfl (t_X1_add (a0 := a0) hc) Sub.same kw_331 kw_332 kw_333 kw_93 hy_X1_add kw_334 rfl (Nat.le_of_ble_eq_true rfl) (Nat.le_of_ble_eq_true rfl) (Nat.le_of_ble_eq_true rfl) (Nat.le_of_ble_eq_true rfl) (Nat.le_of_ble_eq_true rfl) dX1_makePlain_23 ?_
  refine g_aload_n (pc := 26) C 0 rfl dX1_makePlain_26 ?_
  refine g_bipush (pc := 27) C dX1_makePlain_27 cb_m8 ?_
  obtain ⟨c9, c10, hc, h⟩ := b2_of h
  refine g_callV (pc := 29) C (w' := cs_X1 J.2.2.1 a0 c9 l_values l_stack c10) (As := [.int (-8)]) (st := []) (ci := 1) (q0 := 0) rfl rfl (t_X1_add (a0 := a0) hc) Sub.same kw_331 kw_332 kw_333 kw_93 hy_X1_add kw_334 rfl (Nat.le_of_ble_eq_true rfl) (Nat.le_of_ble_eq_true rfl) (Nat.le_of_ble_eq_true rfl) (Nat.le_of_ble_eq_true rfl) (Nat.le_of_ble_eq_true rfl) dX1_makePlain_29 ?_
  cases h
  exact g_vret C E dX1_makePlain_32
noncomputable def f_X7_takes (t_bytes : Nat → Int32) (t_end : Int32) (t_at : Int32) (t_start : Int32) (t_faultKind : Int32) (n1 : Int32) : Option (Int32 × Int32 × Int32) := b3 (f_X7_peek t_bytes t_end t_at t_start t_faultKind) (fun v1 c2 c3 => if v1 = n1 then some (1, c2 + 1, c3) else some (0, c2, c3))
def rm_X7_takes : Room := { frames := 1, cells := 0, slots := 0, locals := 20 }
set_option maxRecDepth 100000 in
set_option maxHeartbeats 4000000 in
theorem t_X7_takes {J : Jt} {a0 : Nat → Nat} {t_bytes : Nat → Int32} {t_held : Int32} {t_end : Int32} {t_at : Int32} {t_start : Int32} {t_faultKind : Int32} {t_faultPlace : Int32} {n1 : Int32} {r : Int32} {o_t_at : Int32} {o_t_start : Int32} (h : f_X7_takes t_bytes t_end t_at t_start t_faultKind n1 = some (r, o_t_at, o_t_start)) : Mt J yX7_takes cX7_takes 2 (some .boolean) rm_X7_takes [.ref (a0 0), .int n1] (cs_X7 J.2.2.1 a0 t_bytes t_held t_end t_at t_start t_faultKind t_faultPlace) (some (.int r)) (cs_X7 J.2.2.1 a0 t_bytes t_held t_end o_t_at o_t_start t_faultKind t_faultPlace) := by
  refine Mt_of (own := RX7) (by decide) rfl (Nat.le_of_ble_eq_true rfl) rfl (fun Z C E => ?_)
  unfold f_X7_takes at h
  show G J Z 0 0 (cs_X7 J.2.2.1 a0 t_bytes t_held t_end t_at t_start t_faultKind t_faultPlace) 2 [(0, .ref (a0 0)), (1, .int n1)] 0 []
  refine g_aload_n (pc := 0) C 0 rfl dX7_takes_0 ?_
  obtain ⟨v1, c2, c3, hc, h⟩ := b3_of h
  refine g_callV (pc := 1) C (w' := cs_X7 J.2.2.1 a0 t_bytes t_held t_end c2 c3 t_faultKind t_faultPlace) (As := []) (st := []) (ci := 7) (q0 := 0) rfl rfl (t_X7_peek (a0 := a0) hc) Sub.same kw_623 kw_624 kw_625 kw_87 hy_X7_peek kw_626 rfl (Nat.le_of_ble_eq_true rfl) (Nat.le_of_ble_eq_true rfl) (Nat.le_of_ble_eq_true rfl) (Nat.le_of_ble_eq_true rfl) (Nat.le_of_ble_eq_true rfl) dX7_takes_1 ?_
  refine g_iload_n (pc := 4) C 1 rfl dX7_takes_4 ?_
  refine g_icmp_eq (pc := 5) C (tgt := 10) dX7_takes_5 rfl h (fun h => ?_) (fun h => ?_)
  · refine g_aload_n (pc := 10) C 0 rfl dX7_takes_10 ?_
    refine g_dup (pc := 11) C dX7_takes_11 rfl ?_
    refine g_get (pc := 12) C FOK_X7 0 rfl rfl 3 (by decide) kw_127 rfl dX7_takes_12 ?_
    refine g_iconst (pc := 15) C dX7_takes_15 ci_1 ?_
    refine g_iadd (pc := 16) C dX7_takes_16 ?_
    refine g_put (pc := 17) C (w' := cs_X7 J.2.2.1 a0 t_bytes t_held t_end (c2 + 1) c3 t_faultKind t_faultPlace) FOK_X7 0 rfl rfl 3 (by decide) kw_127 rfl rfl rfl (Nat.le_of_ble_eq_true rfl) dX7_takes_17 rfl ?_
    refine g_iconst (pc := 20) C dX7_takes_20 ci_1 ?_
    cases h
    exact g_zret C rfl E dX7_takes_21
  · refine g_iconst (pc := 8) C dX7_takes_8 ci_0 ?_
    cases h
    exact g_zret C rfl E dX7_takes_9
noncomputable def f_X7_isSmallLetter  (n1 : Int32) : Option (Int32) := if n1 < 97 then some 0 else if 122 < n1 then some 0 else some 1
def rm_X7_isSmallLetter : Room := { frames := 0, cells := 0, slots := 0, locals := 0 }
set_option maxRecDepth 100000 in
set_option maxHeartbeats 4000000 in
theorem t_X7_isSmallLetter {J : Jt}  {n1 : Int32} {r : Int32} (h : f_X7_isSmallLetter n1 = some r) : Mt J yX7_isSmallLetter cX7_isSmallLetter 1 (some .boolean) rm_X7_isSmallLetter [.int n1] ([]) (some (.int r)) ([]) := by
  refine Mt_of (own := RX7) (by decide) rfl (Nat.le_of_ble_eq_true rfl) rfl (fun Z C E => ?_)
  unfold f_X7_isSmallLetter at h
  show G J Z 0 0 ([]) 1 [(0, .int n1)] 0 []
  refine g_iload_n (pc := 0) C 0 rfl dX7_isSmallLetter_0 ?_
  refine g_bipush (pc := 1) C dX7_isSmallLetter_1 cb_97 ?_
  refine g_icmp_lt (pc := 3) C (tgt := 16) dX7_isSmallLetter_3 rfl h (fun h => ?_) (fun h => ?_)
  · refine g_iconst (pc := 16) C dX7_isSmallLetter_16 ci_0 ?_
    cases h
    exact g_zret C rfl E dX7_isSmallLetter_17
  · refine g_iload_n (pc := 6) C 0 rfl dX7_isSmallLetter_6 ?_
    refine g_bipush (pc := 7) C dX7_isSmallLetter_7 cb_122 ?_
    refine g_icmp_gt (pc := 9) C (tgt := 16) dX7_isSmallLetter_9 rfl h (fun h => ?_) (fun h => ?_)
    · refine g_iconst (pc := 16) C dX7_isSmallLetter_16 ci_0 ?_
      cases h
      exact g_zret C rfl E dX7_isSmallLetter_17
    · refine g_iconst (pc := 12) C dX7_isSmallLetter_12 ci_1 ?_
      refine g_goto (pc := 13) C (tgt := 17) dX7_isSmallLetter_13 rfl ?_
      cases h
      exact g_zret C rfl E dX7_isSmallLetter_17
noncomputable def f_X7_takes__12  (t_bytes : Nat → Int32) (t_end : Int32) (t_faultKind : Int32) (ti1 : Nat) : Nat → Int32 → Int32 → Int32 → Int32 → Option (Int32 × Int32 × Int32)
  | 0, _, _, _, _ => none
  | n + 1, x2, x3, t_at, t_start => if x2 ≤ x3 then if t_faultKind = 0 then b1 (f_X7_byteAt t_bytes t_end (t_at + x2)) (fun v1 => b1 (f_X7_isSmallLetter v1) (fun v2 => if v2 = 0 then some (1, t_at + x2, t_start) else some (0, t_at, t_start))) else some (0, t_at, t_start) else b1 (f_X7_byteAt t_bytes t_end (t_at + x3)) (fun v3 => if ixb x3 (stL ti1) then if v3 = (stC ti1 x3.toNatClampNeg &&& 255) then f_X7_takes__12 t_bytes t_end t_faultKind ti1 n x2 (x3 + 1) t_at t_start else some (0, t_at, t_start) else none)
noncomputable def f_X7_takes_ (t_bytes : Nat → Int32) (t_end : Int32) (t_at : Int32) (t_start : Int32) (t_faultKind : Int32) (ti1 : Nat) : Option (Int32 × Int32 × Int32) := b3 (f_X7_peek t_bytes t_end t_at t_start t_faultKind) (fun v4 c5 c6 => f_X7_takes__12 t_bytes t_end t_faultKind ti1 FU (nI (stL ti1)) 0 c5 c6)
def rm_X7_takes_ : Room := { frames := 4, cells := 0, slots := 0, locals := 141 }
set_option maxRecDepth 100000 in
set_option maxHeartbeats 4000000 in
theorem j_X7_takes__12 {J : Jt} {Z : Zt} {a0 : Nat → Nat} {t_bytes : Nat → Int32} {t_held : Int32} {t_end : Int32} {t_faultKind : Int32} {t_faultPlace : Int32} {ti1 : Nat} {r : Int32} {o_t_at : Int32} {o_t_start : Int32} (C : Cx J Z cX7_takes_ 4 RX7 (some .boolean) rm_X7_takes_) (E : Ez J Z 0 0 (some (.int r)) (cs_X7 J.2.2.1 a0 t_bytes t_held t_end o_t_at o_t_start t_faultKind t_faultPlace)) (hti : ti1 < 35) : ∀ (n : Nat) (x2 : Int32) (x3 : Int32) (t_at : Int32) (t_start : Int32), f_X7_takes__12 t_bytes t_end t_faultKind ti1 n x2 x3 t_at t_start = some (r, o_t_at, o_t_start) → G J Z 0 0 (cs_X7 J.2.2.1 a0 t_bytes t_held t_end t_at t_start t_faultKind t_faultPlace) 4 [(0, .ref (a0 0)), (1, .ref (J.2.2.2.1 ti1)), (2, .int x2), (3, .int x3)] 12 [] := by
  intro n
  induction n with
  | zero =>
    intro x2 x3 t_at t_start h
    rw [f_X7_takes__12] at h
    cases h
  | succ n ih =>
    intro x2 x3 t_at t_start h
    rw [f_X7_takes__12] at h
    refine g_iload_n (pc := 12) C 3 rfl dX7_takes__12 ?_
    refine g_iload_n (pc := 13) C 2 rfl dX7_takes__13 ?_
    refine g_icmp_ge (pc := 14) C (tgt := 43) dX7_takes__14 rfl h (fun h => ?_) (fun h => ?_)
    · refine g_aload_n (pc := 43) C 0 rfl dX7_takes__43 ?_
      refine g_get (pc := 44) C FOK_X7 0 rfl rfl 5 (by decide) kw_129 rfl dX7_takes__44 ?_
      refine g_if_ne (pc := 47) C (tgt := 66) dX7_takes__47 rfl h (fun h => ?_) (fun h => ?_)
      · refine g_iconst (pc := 66) C dX7_takes__66 ci_0 ?_
        cases h
        exact g_zret C rfl E dX7_takes__67
      · refine g_aload_n (pc := 50) C 0 rfl dX7_takes__50 ?_
        refine g_aload_n (pc := 51) C 0 rfl dX7_takes__51 ?_
        refine g_get (pc := 52) C FOK_X7 0 rfl rfl 3 (by decide) kw_127 rfl dX7_takes__52 ?_
        refine g_iload_n (pc := 55) C 2 rfl dX7_takes__55 ?_
        refine g_iadd (pc := 56) C dX7_takes__56 ?_
        obtain ⟨v1, hc, h⟩ := b1_of h
        refine g_callV (pc := 57) C (w' := cs_X7 J.2.2.1 a0 t_bytes t_held t_end t_at t_start t_faultKind t_faultPlace) (As := [.int (t_at + x2)]) (st := []) (ci := 7) (q0 := 0) rfl rfl (t_X7_byteAt (a0 := a0) hc) Sub.same kw_646 kw_647 kw_648 kw_87 hy_X7_byteAt kw_649 rfl (Nat.le_of_ble_eq_true rfl) (Nat.le_of_ble_eq_true rfl) (Nat.le_of_ble_eq_true rfl) (Nat.le_of_ble_eq_true rfl) (Nat.le_of_ble_eq_true rfl) dX7_takes__57 ?_
        obtain ⟨v2, hc, h⟩ := b1_of h
        refine g_callS (pc := 60) C (w' := cs_X7 J.2.2.1 a0 t_bytes t_held t_end t_at t_start t_faultKind t_faultPlace) (As := [.int v1]) (st := []) (t_X7_isSmallLetter hc) Sub.nil kw_688 kw_689 kw_87 hy_X7_isSmallLetter kw_690 rfl (Nat.le_of_ble_eq_true rfl) (Nat.le_of_ble_eq_true rfl) (Nat.le_of_ble_eq_true rfl) (Nat.le_of_ble_eq_true rfl) (Nat.le_of_ble_eq_true rfl) dX7_takes__60 ?_
        refine g_if_eq (pc := 63) C (tgt := 68) dX7_takes__63 rfl h (fun h => ?_) (fun h => ?_)
        · refine g_aload_n (pc := 68) C 0 rfl dX7_takes__68 ?_
          refine g_dup (pc := 69) C dX7_takes__69 rfl ?_
          refine g_get (pc := 70) C FOK_X7 0 rfl rfl 3 (by decide) kw_127 rfl dX7_takes__70 ?_
          refine g_iload_n (pc := 73) C 2 rfl dX7_takes__73 ?_
          refine g_iadd (pc := 74) C dX7_takes__74 ?_
          refine g_put (pc := 75) C (w' := cs_X7 J.2.2.1 a0 t_bytes t_held t_end (t_at + x2) t_start t_faultKind t_faultPlace) FOK_X7 0 rfl rfl 3 (by decide) kw_127 rfl rfl rfl (Nat.le_of_ble_eq_true rfl) dX7_takes__75 rfl ?_
          refine g_iconst (pc := 78) C dX7_takes__78 ci_1 ?_
          cases h
          exact g_zret C rfl E dX7_takes__79
        · refine g_iconst (pc := 66) C dX7_takes__66 ci_0 ?_
          cases h
          exact g_zret C rfl E dX7_takes__67
    · refine g_aload_n (pc := 17) C 0 rfl dX7_takes__17 ?_
      refine g_aload_n (pc := 18) C 0 rfl dX7_takes__18 ?_
      refine g_get (pc := 19) C FOK_X7 0 rfl rfl 3 (by decide) kw_127 rfl dX7_takes__19 ?_
      refine g_iload_n (pc := 22) C 3 rfl dX7_takes__22 ?_
      refine g_iadd (pc := 23) C dX7_takes__23 ?_
      obtain ⟨v3, hc, h⟩ := b1_of h
      refine g_callV (pc := 24) C (w' := cs_X7 J.2.2.1 a0 t_bytes t_held t_end t_at t_start t_faultKind t_faultPlace) (As := [.int (t_at + x3)]) (st := []) (ci := 7) (q0 := 0) rfl rfl (t_X7_byteAt (a0 := a0) hc) Sub.same kw_646 kw_647 kw_648 kw_87 hy_X7_byteAt kw_649 rfl (Nat.le_of_ble_eq_true rfl) (Nat.le_of_ble_eq_true rfl) (Nat.le_of_ble_eq_true rfl) (Nat.le_of_ble_eq_true rfl) (Nat.le_of_ble_eq_true rfl) dX7_takes__24 ?_
      refine g_aload_n (pc := 27) C 1 rfl dX7_takes__27 ?_
      refine g_iload_n (pc := 28) C 3 rfl dX7_takes__28 ?_
      obtain ⟨hi, h⟩ := ix_of h
      refine g_callVS (pc := 29) C (w' := cs_X7 J.2.2.1 a0 t_bytes t_held t_end t_at t_start t_faultKind t_faultPlace) (As := [.int x3]) (st := [.int v3]) (i := ti1) hti (t_charAt hti hi) Sub.nil kw_650 kw_651 kw_652 kw_101 hy_J0_charAt_5068e kw_653 rfl (Nat.le_of_ble_eq_true rfl) (Nat.le_of_ble_eq_true rfl) (Nat.le_of_ble_eq_true rfl) (Nat.le_of_ble_eq_true rfl) (Nat.le_of_ble_eq_true rfl) dX7_takes__29 ?_
      refine g_icmp_eq (pc := 32) C (tgt := 37) dX7_takes__32 rfl h (fun h => ?_) (fun h => ?_)
      · refine g_iinc (pc := 37) C (j := 3) [(3, .int (x3 + 1)), (0, .ref (a0 0)), (1, .ref (J.2.2.2.1 ti1)), (2, .int x2)] dX7_takes__37 rfl (ii_1 _) (by decide) rfl ?_
        refine g_goto (pc := 40) C (tgt := 12) dX7_takes__40 rfl ?_
        refine g_lv [1, 2, 3, 0] rfl ?_
        exact ih x2 (x3 + 1) t_at t_start h
      · refine g_iconst (pc := 35) C dX7_takes__35 ci_0 ?_
        cases h
        exact g_zret C rfl E dX7_takes__36
set_option maxRecDepth 100000 in
set_option maxHeartbeats 4000000 in
theorem t_X7_takes_ {J : Jt} {a0 : Nat → Nat} {t_bytes : Nat → Int32} {t_held : Int32} {t_end : Int32} {t_at : Int32} {t_start : Int32} {t_faultKind : Int32} {t_faultPlace : Int32} {ti1 : Nat} {r : Int32} {o_t_at : Int32} {o_t_start : Int32} (hti : ti1 < 35) (h : f_X7_takes_ t_bytes t_end t_at t_start t_faultKind ti1 = some (r, o_t_at, o_t_start)) : Mt J yX7_takes_ cX7_takes_ 4 (some .boolean) rm_X7_takes_ [.ref (a0 0), .ref (J.2.2.2.1 ti1)] (cs_X7 J.2.2.1 a0 t_bytes t_held t_end t_at t_start t_faultKind t_faultPlace) (some (.int r)) (cs_X7 J.2.2.1 a0 t_bytes t_held t_end o_t_at o_t_start t_faultKind t_faultPlace) := by
  refine Mt_of (own := RX7) (by decide) rfl (Nat.le_of_ble_eq_true rfl) rfl (fun Z C E => ?_)
  unfold f_X7_takes_ at h
  show G J Z 0 0 (cs_X7 J.2.2.1 a0 t_bytes t_held t_end t_at t_start t_faultKind t_faultPlace) 4 [(0, .ref (a0 0)), (1, .ref (J.2.2.2.1 ti1))] 0 []
  refine g_aload_n (pc := 0) C 0 rfl dX7_takes__0 ?_
  obtain ⟨v4, c5, c6, hc, h⟩ := b3_of h
  refine g_callV (pc := 1) C (w' := cs_X7 J.2.2.1 a0 t_bytes t_held t_end c5 c6 t_faultKind t_faultPlace) (As := []) (st := []) (ci := 7) (q0 := 0) rfl rfl (t_X7_peek (a0 := a0) hc) Sub.same kw_623 kw_624 kw_625 kw_87 hy_X7_peek kw_626 rfl (Nat.le_of_ble_eq_true rfl) (Nat.le_of_ble_eq_true rfl) (Nat.le_of_ble_eq_true rfl) (Nat.le_of_ble_eq_true rfl) (Nat.le_of_ble_eq_true rfl) dX7_takes__1 ?_
  refine g_pop (pc := 4) C dX7_takes__4 rfl ?_
  refine g_aload_n (pc := 5) C 1 rfl dX7_takes__5 ?_
  refine g_callVS (pc := 6) C (w' := cs_X7 J.2.2.1 a0 t_bytes t_held t_end c5 c6 t_faultKind t_faultPlace) (As := []) (st := []) (i := ti1) hti (t_length hti) Sub.nil kw_636 kw_637 kw_638 kw_101 hy_J0_length_8abf5 kw_639 rfl (Nat.le_of_ble_eq_true rfl) (Nat.le_of_ble_eq_true rfl) (Nat.le_of_ble_eq_true rfl) (Nat.le_of_ble_eq_true rfl) (Nat.le_of_ble_eq_true rfl) dX7_takes__6 ?_
  refine g_istore_n (pc := 9) C [(2, .int (nI (stL ti1))), (0, .ref (a0 0)), (1, .ref (J.2.2.2.1 ti1))] dX7_takes__9 rfl (by decide) rfl ?_
  refine g_iconst (pc := 10) C dX7_takes__10 ci_0 ?_
  refine g_istore_n (pc := 11) C [(3, .int 0), (2, .int (nI (stL ti1))), (0, .ref (a0 0)), (1, .ref (J.2.2.2.1 ti1))] dX7_takes__11 rfl (by decide) rfl ?_
  refine g_lv [2, 3, 1, 0] rfl ?_
  exact j_X7_takes__12 C E  hti  FU (nI (stL ti1)) 0 c5 c6 h
noncomputable def f_X1_readValue_98  (t_bytes : Nat → Int32) (t_end : Int32) (y0 : Int32) (l_code : Nat → Int32) (l_length : Int32) (t_at : Int32) (t_start : Int32) (t_faultKind : Int32) (t_faultPlace : Int32) : Option ((Nat → Int32) × Int32 × Int32 × Int32 × Int32 × Int32) := if y0 = 0 then b2 (f_X7_blame t_start t_faultKind t_faultPlace 1) (fun c3 c4 => some (l_code, l_length, t_at, t_start, c3, c4)) else b2 (f_X1_add l_code l_length y0) (fun c1 c2 => some (c1, c2, t_at, t_start, t_faultKind, t_faultPlace))
noncomputable def f_X1_readValue (l_code : Nat → Int32) (l_length : Int32) (t_bytes : Nat → Int32) (t_end : Int32) (t_at : Int32) (t_start : Int32) (t_faultKind : Int32) (t_faultPlace : Int32) : Option ((Nat → Int32) × Int32 × Int32 × Int32 × Int32 × Int32) := b3 (f_X7_takes_ t_bytes t_end t_at t_start t_faultKind 5) (fun v5 c6 c7 => if v5 = 0 then b3 (f_X7_takes_ t_bytes t_end c6 c7 t_faultKind 6) (fun v8 c9 c10 => if v8 = 0 then b3 (f_X7_takes_ t_bytes t_end c9 c10 t_faultKind 7) (fun v11 c12 c13 => if v11 = 0 then b3 (f_X7_takes_ t_bytes t_end c12 c13 t_faultKind 8) (fun v14 c15 c16 => if v14 = 0 then b3 (f_X7_takes_ t_bytes t_end c15 c16 t_faultKind 9) (fun v17 c18 c19 => if v17 = 0 then b3 (f_X7_takes_ t_bytes t_end c18 c19 t_faultKind 10) (fun v20 c21 c22 => if v20 = 0 then b3 (f_X7_takes_ t_bytes t_end c21 c22 t_faultKind 11) (fun v23 c24 c25 => if v23 = 0 then f_X1_readValue_98 t_bytes t_end 0 l_code l_length c24 c25 t_faultKind t_faultPlace else f_X1_readValue_98 t_bytes t_end (-7) l_code l_length c24 c25 t_faultKind t_faultPlace) else f_X1_readValue_98 t_bytes t_end (-6) l_code l_length c21 c22 t_faultKind t_faultPlace) else f_X1_readValue_98 t_bytes t_end (-5) l_code l_length c18 c19 t_faultKind t_faultPlace) else f_X1_readValue_98 t_bytes t_end (-4) l_code l_length c15 c16 t_faultKind t_faultPlace) else f_X1_readValue_98 t_bytes t_end (-3) l_code l_length c12 c13 t_faultKind t_faultPlace) else f_X1_readValue_98 t_bytes t_end (-2) l_code l_length c9 c10 t_faultKind t_faultPlace) else f_X1_readValue_98 t_bytes t_end (-1) l_code l_length c6 c7 t_faultKind t_faultPlace)
def rm_X1_readValue : Room := { frames := 5, cells := 0, slots := 0, locals := 164 }
set_option maxRecDepth 100000 in
set_option maxHeartbeats 4000000 in
theorem j_X1_readValue_98 {J : Jt} {Z : Zt} {a0 : Nat → Nat} {a1 : Nat → Nat} {l_values : Nat → Int32} {l_stack : Nat → Int32} {t_bytes : Nat → Int32} {t_held : Int32} {t_end : Int32} {o_l_code : Nat → Int32} {o_l_length : Int32} {o_t_at : Int32} {o_t_start : Int32} {o_t_faultKind : Int32} {o_t_faultPlace : Int32} (C : Cx J Z cX1_readValue 3 RX1 none rm_X1_readValue) (E : Ez J Z 0 0 none (cs_X1 J.2.2.1 a0 o_l_code l_values l_stack o_l_length ++ cs_X7 J.2.2.1 a1 t_bytes t_held t_end o_t_at o_t_start o_t_faultKind o_t_faultPlace)) : ∀ (y0 : Int32) (l_code : Nat → Int32) (l_length : Int32) (t_at : Int32) (t_start : Int32) (t_faultKind : Int32) (t_faultPlace : Int32), f_X1_readValue_98 t_bytes t_end y0 l_code l_length t_at t_start t_faultKind t_faultPlace = some (o_l_code, o_l_length, o_t_at, o_t_start, o_t_faultKind, o_t_faultPlace) → G J Z 0 0 (cs_X1 J.2.2.1 a0 l_code l_values l_stack l_length ++ cs_X7 J.2.2.1 a1 t_bytes t_held t_end t_at t_start t_faultKind t_faultPlace) 3 [(0, .ref (a0 0)), (1, .ref (a1 0))] 98 [.int y0] := by
  intro y0 l_code l_length t_at t_start t_faultKind t_faultPlace h
  unfold f_X1_readValue_98 at h
  refine g_istore_n (pc := 98) C [(2, .int y0), (0, .ref (a0 0)), (1, .ref (a1 0))] dX1_readValue_98 rfl (by decide) rfl ?_
  refine g_iload_n (pc := 99) C 0 rfl dX1_readValue_99 ?_
  refine g_if_ne (pc := 100) C (tgt := 109) dX1_readValue_100 rfl h (fun h => ?_) (fun h => ?_)
  · refine g_aload_n (pc := 109) C 1 rfl dX1_readValue_109 ?_
    refine g_iload_n (pc := 110) C 0 rfl dX1_readValue_110 ?_
    obtain ⟨c1, c2, hc, h⟩ := b2_of h
    refine g_callV (pc := 111) C (w' := cs_X1 J.2.2.1 a0 c1 l_values l_stack c2 ++ cs_X7 J.2.2.1 a1 t_bytes t_held t_end t_at t_start t_faultKind t_faultPlace) (As := [.int y0]) (st := []) (ci := 1) (q0 := 0) rfl rfl (t_X1_add (a0 := a0) hc) (Sub.gen [0, 1, 2, 3] [4, 5] [2, 3, 4, 5, 0, 1] rfl (by decide) rfl (by decide) (by decide) rfl (by decide)) kw_331 kw_332 kw_333 kw_93 hy_X1_add kw_334 rfl (Nat.le_of_ble_eq_true rfl) (Nat.le_of_ble_eq_true rfl) (Nat.le_of_ble_eq_true rfl) (Nat.le_of_ble_eq_true rfl) (Nat.le_of_ble_eq_true rfl) dX1_readValue_111 ?_
    cases h
    exact g_vret C E dX1_readValue_114
  · refine g_aload_n (pc := 103) C 2 rfl dX1_readValue_103 ?_
    refine g_iconst (pc := 104) C dX1_readValue_104 ci_1 ?_
    obtain ⟨c3, c4, hc, h⟩ := b2_of h
    refine g_callV (pc := 105) C (w' := cs_X1 J.2.2.1 a0 l_code l_values l_stack l_length ++ cs_X7 J.2.2.1 a1 t_bytes t_held t_end t_at t_start c3 c4) (As := [.int 1]) (st := []) (ci := 7) (q0 := 4) rfl rfl (t_X7_blame (a0 := a1) hc) (Sub.gen [4, 5] [0, 1, 2, 3] [0, 1, 2, 3, 4, 5] rfl (by decide) rfl (by decide) (by decide) rfl (by decide)) kw_781 kw_696 kw_697 kw_87 hy_X7_blame kw_698 rfl (Nat.le_of_ble_eq_true rfl) (Nat.le_of_ble_eq_true rfl) (Nat.le_of_ble_eq_true rfl) (Nat.le_of_ble_eq_true rfl) (Nat.le_of_ble_eq_true rfl) dX1_readValue_105 ?_
    cases h
    exact g_vret C E dX1_readValue_108
set_option maxRecDepth 100000 in
set_option maxHeartbeats 4000000 in
theorem t_X1_readValue {J : Jt} {a0 : Nat → Nat} {a1 : Nat → Nat} {l_code : Nat → Int32} {l_values : Nat → Int32} {l_stack : Nat → Int32} {l_length : Int32} {t_bytes : Nat → Int32} {t_held : Int32} {t_end : Int32} {t_at : Int32} {t_start : Int32} {t_faultKind : Int32} {t_faultPlace : Int32} {o_l_code : Nat → Int32} {o_l_length : Int32} {o_t_at : Int32} {o_t_start : Int32} {o_t_faultKind : Int32} {o_t_faultPlace : Int32} (h : f_X1_readValue l_code l_length t_bytes t_end t_at t_start t_faultKind t_faultPlace = some (o_l_code, o_l_length, o_t_at, o_t_start, o_t_faultKind, o_t_faultPlace)) : Mt J yX1_readValue cX1_readValue 3 none rm_X1_readValue [.ref (a0 0), .ref (a1 0)] (cs_X1 J.2.2.1 a0 l_code l_values l_stack l_length ++ cs_X7 J.2.2.1 a1 t_bytes t_held t_end t_at t_start t_faultKind t_faultPlace) none (cs_X1 J.2.2.1 a0 o_l_code l_values l_stack o_l_length ++ cs_X7 J.2.2.1 a1 t_bytes t_held t_end o_t_at o_t_start o_t_faultKind o_t_faultPlace) := by
  refine Mt_of (own := RX1) (by decide) rfl (Nat.le_of_ble_eq_true rfl) rfl (fun Z C E => ?_)
  unfold f_X1_readValue at h
  show G J Z 0 0 (cs_X1 J.2.2.1 a0 l_code l_values l_stack l_length ++ cs_X7 J.2.2.1 a1 t_bytes t_held t_end t_at t_start t_faultKind t_faultPlace) 3 [(0, .ref (a0 0)), (1, .ref (a1 0))] 0 []
  refine g_aload_n (pc := 0) C 1 rfl dX1_readValue_0 ?_
  refine g_ldcS (pc := 1) C (i := 5) rfl dX1_readValue_1 ?_
  obtain ⟨v5, c6, c7, hc, h⟩ := b3_of h
  refine g_callV (pc := 3) C (w' := cs_X1 J.2.2.1 a0 l_code l_values l_stack l_length ++ cs_X7 J.2.2.1 a1 t_bytes t_held t_end c6 c7 t_faultKind t_faultPlace) (As := [.ref (J.2.2.2.1 5)]) (st := []) (ci := 7) (q0 := 4) rfl rfl (t_X7_takes_ (a0 := a1) (by decide) hc) (Sub.gen [4, 5] [0, 1, 2, 3] [0, 1, 2, 3, 4, 5] rfl (by decide) rfl (by decide) (by decide) rfl (by decide)) kw_784 kw_633 kw_634 kw_87 hy_X7_takes_ kw_635 rfl (Nat.le_of_ble_eq_true rfl) (Nat.le_of_ble_eq_true rfl) (Nat.le_of_ble_eq_true rfl) (Nat.le_of_ble_eq_true rfl) (Nat.le_of_ble_eq_true rfl) dX1_readValue_3 ?_
  refine g_if_eq (pc := 6) C (tgt := 13) dX1_readValue_6 rfl h (fun h => ?_) (fun h => ?_)
  · refine g_aload_n (pc := 13) C 1 rfl dX1_readValue_13 ?_
    refine g_ldcS (pc := 14) C (i := 6) rfl dX1_readValue_14 ?_
    obtain ⟨v8, c9, c10, hc, h⟩ := b3_of h
    refine g_callV (pc := 16) C (w' := cs_X1 J.2.2.1 a0 l_code l_values l_stack l_length ++ cs_X7 J.2.2.1 a1 t_bytes t_held t_end c9 c10 t_faultKind t_faultPlace) (As := [.ref (J.2.2.2.1 6)]) (st := []) (ci := 7) (q0 := 4) rfl rfl (t_X7_takes_ (a0 := a1) (by decide) hc) (Sub.gen [4, 5] [0, 1, 2, 3] [0, 1, 2, 3, 4, 5] rfl (by decide) rfl (by decide) (by decide) rfl (by decide)) kw_784 kw_633 kw_634 kw_87 hy_X7_takes_ kw_635 rfl (Nat.le_of_ble_eq_true rfl) (Nat.le_of_ble_eq_true rfl) (Nat.le_of_ble_eq_true rfl) (Nat.le_of_ble_eq_true rfl) (Nat.le_of_ble_eq_true rfl) dX1_readValue_16 ?_
    refine g_if_eq (pc := 19) C (tgt := 27) dX1_readValue_19 rfl h (fun h => ?_) (fun h => ?_)
    · refine g_aload_n (pc := 27) C 1 rfl dX1_readValue_27 ?_
      refine g_ldcS (pc := 28) C (i := 7) rfl dX1_readValue_28 ?_
      obtain ⟨v11, c12, c13, hc, h⟩ := b3_of h
      refine g_callV (pc := 30) C (w' := cs_X1 J.2.2.1 a0 l_code l_values l_stack l_length ++ cs_X7 J.2.2.1 a1 t_bytes t_held t_end c12 c13 t_faultKind t_faultPlace) (As := [.ref (J.2.2.2.1 7)]) (st := []) (ci := 7) (q0 := 4) rfl rfl (t_X7_takes_ (a0 := a1) (by decide) hc) (Sub.gen [4, 5] [0, 1, 2, 3] [0, 1, 2, 3, 4, 5] rfl (by decide) rfl (by decide) (by decide) rfl (by decide)) kw_784 kw_633 kw_634 kw_87 hy_X7_takes_ kw_635 rfl (Nat.le_of_ble_eq_true rfl) (Nat.le_of_ble_eq_true rfl) (Nat.le_of_ble_eq_true rfl) (Nat.le_of_ble_eq_true rfl) (Nat.le_of_ble_eq_true rfl) dX1_readValue_30 ?_
      refine g_if_eq (pc := 33) C (tgt := 41) dX1_readValue_33 rfl h (fun h => ?_) (fun h => ?_)
      · refine g_aload_n (pc := 41) C 1 rfl dX1_readValue_41 ?_
        refine g_ldcS (pc := 42) C (i := 8) rfl dX1_readValue_42 ?_
        obtain ⟨v14, c15, c16, hc, h⟩ := b3_of h
        refine g_callV (pc := 44) C (w' := cs_X1 J.2.2.1 a0 l_code l_values l_stack l_length ++ cs_X7 J.2.2.1 a1 t_bytes t_held t_end c15 c16 t_faultKind t_faultPlace) (As := [.ref (J.2.2.2.1 8)]) (st := []) (ci := 7) (q0 := 4) rfl rfl (t_X7_takes_ (a0 := a1) (by decide) hc) (Sub.gen [4, 5] [0, 1, 2, 3] [0, 1, 2, 3, 4, 5] rfl (by decide) rfl (by decide) (by decide) rfl (by decide)) kw_784 kw_633 kw_634 kw_87 hy_X7_takes_ kw_635 rfl (Nat.le_of_ble_eq_true rfl) (Nat.le_of_ble_eq_true rfl) (Nat.le_of_ble_eq_true rfl) (Nat.le_of_ble_eq_true rfl) (Nat.le_of_ble_eq_true rfl) dX1_readValue_44 ?_
        refine g_if_eq (pc := 47) C (tgt := 55) dX1_readValue_47 rfl h (fun h => ?_) (fun h => ?_)
        · refine g_aload_n (pc := 55) C 1 rfl dX1_readValue_55 ?_
          refine g_ldcS (pc := 56) C (i := 9) rfl dX1_readValue_56 ?_
          obtain ⟨v17, c18, c19, hc, h⟩ := b3_of h
          refine g_callV (pc := 58) C (w' := cs_X1 J.2.2.1 a0 l_code l_values l_stack l_length ++ cs_X7 J.2.2.1 a1 t_bytes t_held t_end c18 c19 t_faultKind t_faultPlace) (As := [.ref (J.2.2.2.1 9)]) (st := []) (ci := 7) (q0 := 4) rfl rfl (t_X7_takes_ (a0 := a1) (by decide) hc) (Sub.gen [4, 5] [0, 1, 2, 3] [0, 1, 2, 3, 4, 5] rfl (by decide) rfl (by decide) (by decide) rfl (by decide)) kw_784 kw_633 kw_634 kw_87 hy_X7_takes_ kw_635 rfl (Nat.le_of_ble_eq_true rfl) (Nat.le_of_ble_eq_true rfl) (Nat.le_of_ble_eq_true rfl) (Nat.le_of_ble_eq_true rfl) (Nat.le_of_ble_eq_true rfl) dX1_readValue_58 ?_
          refine g_if_eq (pc := 61) C (tgt := 69) dX1_readValue_61 rfl h (fun h => ?_) (fun h => ?_)
          · refine g_aload_n (pc := 69) C 1 rfl dX1_readValue_69 ?_
            refine g_ldcS (pc := 70) C (i := 10) rfl dX1_readValue_70 ?_
            obtain ⟨v20, c21, c22, hc, h⟩ := b3_of h
            refine g_callV (pc := 72) C (w' := cs_X1 J.2.2.1 a0 l_code l_values l_stack l_length ++ cs_X7 J.2.2.1 a1 t_bytes t_held t_end c21 c22 t_faultKind t_faultPlace) (As := [.ref (J.2.2.2.1 10)]) (st := []) (ci := 7) (q0 := 4) rfl rfl (t_X7_takes_ (a0 := a1) (by decide) hc) (Sub.gen [4, 5] [0, 1, 2, 3] [0, 1, 2, 3, 4, 5] rfl (by decide) rfl (by decide) (by decide) rfl (by decide)) kw_784 kw_633 kw_634 kw_87 hy_X7_takes_ kw_635 rfl (Nat.le_of_ble_eq_true rfl) (Nat.le_of_ble_eq_true rfl) (Nat.le_of_ble_eq_true rfl) (Nat.le_of_ble_eq_true rfl) (Nat.le_of_ble_eq_true rfl) dX1_readValue_72 ?_
            refine g_if_eq (pc := 75) C (tgt := 83) dX1_readValue_75 rfl h (fun h => ?_) (fun h => ?_)
            · refine g_aload_n (pc := 83) C 1 rfl dX1_readValue_83 ?_
              refine g_ldcS (pc := 84) C (i := 11) rfl dX1_readValue_84 ?_
              obtain ⟨v23, c24, c25, hc, h⟩ := b3_of h
              refine g_callV (pc := 86) C (w' := cs_X1 J.2.2.1 a0 l_code l_values l_stack l_length ++ cs_X7 J.2.2.1 a1 t_bytes t_held t_end c24 c25 t_faultKind t_faultPlace) (As := [.ref (J.2.2.2.1 11)]) (st := []) (ci := 7) (q0 := 4) rfl rfl (t_X7_takes_ (a0 := a1) (by decide) hc) (Sub.gen [4, 5] [0, 1, 2, 3] [0, 1, 2, 3, 4, 5] rfl (by decide) rfl (by decide) (by decide) rfl (by decide)) kw_784 kw_633 kw_634 kw_87 hy_X7_takes_ kw_635 rfl (Nat.le_of_ble_eq_true rfl) (Nat.le_of_ble_eq_true rfl) (Nat.le_of_ble_eq_true rfl) (Nat.le_of_ble_eq_true rfl) (Nat.le_of_ble_eq_true rfl) dX1_readValue_86 ?_
              refine g_if_eq (pc := 89) C (tgt := 97) dX1_readValue_89 rfl h (fun h => ?_) (fun h => ?_)
              · refine g_iconst (pc := 97) C dX1_readValue_97 ci_0 ?_
                exact j_X1_readValue_98 C E    0 l_code l_length c24 c25 t_faultKind t_faultPlace h
              · refine g_bipush (pc := 92) C dX1_readValue_92 cb_m7 ?_
                refine g_goto (pc := 94) C (tgt := 98) dX1_readValue_94 rfl ?_
                exact j_X1_readValue_98 C E    (-7) l_code l_length c24 c25 t_faultKind t_faultPlace h
            · refine g_bipush (pc := 78) C dX1_readValue_78 cb_m6 ?_
              refine g_goto (pc := 80) C (tgt := 98) dX1_readValue_80 rfl ?_
              exact j_X1_readValue_98 C E    (-6) l_code l_length c21 c22 t_faultKind t_faultPlace h
          · refine g_bipush (pc := 64) C dX1_readValue_64 cb_m5 ?_
            refine g_goto (pc := 66) C (tgt := 98) dX1_readValue_66 rfl ?_
            exact j_X1_readValue_98 C E    (-5) l_code l_length c18 c19 t_faultKind t_faultPlace h
        · refine g_bipush (pc := 50) C dX1_readValue_50 cb_m4 ?_
          refine g_goto (pc := 52) C (tgt := 98) dX1_readValue_52 rfl ?_
          exact j_X1_readValue_98 C E    (-4) l_code l_length c15 c16 t_faultKind t_faultPlace h
      · refine g_bipush (pc := 36) C dX1_readValue_36 cb_m3 ?_
        refine g_goto (pc := 38) C (tgt := 98) dX1_readValue_38 rfl ?_
        exact j_X1_readValue_98 C E    (-3) l_code l_length c12 c13 t_faultKind t_faultPlace h
    · refine g_bipush (pc := 22) C dX1_readValue_22 cb_m2 ?_
      refine g_goto (pc := 24) C (tgt := 98) dX1_readValue_24 rfl ?_
      exact j_X1_readValue_98 C E    (-2) l_code l_length c9 c10 t_faultKind t_faultPlace h
  · refine g_iconst (pc := 9) C dX1_readValue_9 ci_m1 ?_
    refine g_goto (pc := 10) C (tgt := 98) dX1_readValue_10 rfl ?_
    exact j_X1_readValue_98 C E    (-1) l_code l_length c6 c7 t_faultKind t_faultPlace h
noncomputable def f_X7_isAtNumber (t_bytes : Nat → Int32) (t_end : Int32) (t_at : Int32) (t_start : Int32) (t_faultKind : Int32) : Option (Int32 × Int32 × Int32) := b3 (f_X7_peek t_bytes t_end t_at t_start t_faultKind) (fun v1 c2 c3 => b1 (f_X7_isDigit v1) (fun v4 => if zok v4 then some (v4, c2, c3) else none))
def rm_X7_isAtNumber : Room := { frames := 1, cells := 0, slots := 0, locals := 20 }
set_option maxRecDepth 100000 in
set_option maxHeartbeats 4000000 in
theorem t_X7_isAtNumber {J : Jt} {a0 : Nat → Nat} {t_bytes : Nat → Int32} {t_held : Int32} {t_end : Int32} {t_at : Int32} {t_start : Int32} {t_faultKind : Int32} {t_faultPlace : Int32} {r : Int32} {o_t_at : Int32} {o_t_start : Int32} (h : f_X7_isAtNumber t_bytes t_end t_at t_start t_faultKind = some (r, o_t_at, o_t_start)) : Mt J yX7_isAtNumber cX7_isAtNumber 1 (some .boolean) rm_X7_isAtNumber [.ref (a0 0)] (cs_X7 J.2.2.1 a0 t_bytes t_held t_end t_at t_start t_faultKind t_faultPlace) (some (.int r)) (cs_X7 J.2.2.1 a0 t_bytes t_held t_end o_t_at o_t_start t_faultKind t_faultPlace) := by
  refine Mt_of (own := RX7) (by decide) rfl (Nat.le_of_ble_eq_true rfl) rfl (fun Z C E => ?_)
  unfold f_X7_isAtNumber at h
  show G J Z 0 0 (cs_X7 J.2.2.1 a0 t_bytes t_held t_end t_at t_start t_faultKind t_faultPlace) 1 [(0, .ref (a0 0))] 0 []
  refine g_aload_n (pc := 0) C 0 rfl dX7_isAtNumber_0 ?_
  obtain ⟨v1, c2, c3, hc, h⟩ := b3_of h
  refine g_callV (pc := 1) C (w' := cs_X7 J.2.2.1 a0 t_bytes t_held t_end c2 c3 t_faultKind t_faultPlace) (As := []) (st := []) (ci := 7) (q0 := 0) rfl rfl (t_X7_peek (a0 := a0) hc) Sub.same kw_623 kw_624 kw_625 kw_87 hy_X7_peek kw_626 rfl (Nat.le_of_ble_eq_true rfl) (Nat.le_of_ble_eq_true rfl) (Nat.le_of_ble_eq_true rfl) (Nat.le_of_ble_eq_true rfl) (Nat.le_of_ble_eq_true rfl) dX7_isAtNumber_1 ?_
  obtain ⟨v4, hc, h⟩ := b1_of h
  refine g_callS (pc := 4) C (w' := cs_X7 J.2.2.1 a0 t_bytes t_held t_end c2 c3 t_faultKind t_faultPlace) (As := [.int v1]) (st := []) (t_X7_isDigit hc) Sub.nil kw_703 kw_704 kw_87 hy_X7_isDigit kw_705 rfl (Nat.le_of_ble_eq_true rfl) (Nat.le_of_ble_eq_true rfl) (Nat.le_of_ble_eq_true rfl) (Nat.le_of_ble_eq_true rfl) (Nat.le_of_ble_eq_true rfl) dX7_isAtNumber_4 ?_
  obtain ⟨hz, h⟩ := zok_of h
  cases h
  exact g_zret C hz E dX7_isAtNumber_7
noncomputable def f_X1_readSum_44  (q_X1_readSum : (Nat → Int32) → Int32 → (Nat → Int32) → Int32 → Int32 → Int32 → Int32 → Int32 → Int32 → Option ((Nat → Int32) × Int32 × Int32 × Int32 × Int32 × Int32)) (q_X1_readProduct : (Nat → Int32) → Int32 → (Nat → Int32) → Int32 → Int32 → Int32 → Int32 → Int32 → Int32 → Option ((Nat → Int32) × Int32 × Int32 × Int32 × Int32 × Int32)) (q_X1_readUnit : (Nat → Int32) → Int32 → (Nat → Int32) → Int32 → Int32 → Int32 → Int32 → Int32 → Int32 → Option ((Nat → Int32) × Int32 × Int32 × Int32 × Int32 × Int32)) (q_X1_readOpen : (Nat → Int32) → Int32 → (Nat → Int32) → Int32 → Int32 → Int32 → Int32 → Int32 → Int32 → Int32 → Option ((Nat → Int32) × Int32 × Int32 × Int32 × Int32 × Int32)) (t_bytes : Nat → Int32) (t_end : Int32) (n1 : Int32) (k8 : Int32 → (Nat → Int32) → Int32 → Int32 → Int32 → Int32 → Int32 → Option ((Nat → Int32) × Int32 × Int32 × Int32 × Int32 × Int32)) (x3 : Int32) (y0 : Int32) (l_code : Nat → Int32) (l_length : Int32) (t_at : Int32) (t_start : Int32) (t_faultKind : Int32) (t_faultPlace : Int32) : Option ((Nat → Int32) × Int32 × Int32 × Int32 × Int32 × Int32) := if y0 = 0 then some (l_code, l_length, t_at, t_start, t_faultKind, t_faultPlace) else b6 (q_X1_readProduct l_code l_length t_bytes t_end t_at t_start t_faultKind t_faultPlace n1) (fun c1 c2 c3 c4 c5 c6 => b2 (f_X1_add c1 c2 y0) (fun c7 c8 => k8 (x3 + 1) c7 c8 c3 c4 c5 c6))
noncomputable def f_X1_readSum_8  (q_X1_readSum : (Nat → Int32) → Int32 → (Nat → Int32) → Int32 → Int32 → Int32 → Int32 → Int32 → Int32 → Option ((Nat → Int32) × Int32 × Int32 × Int32 × Int32 × Int32)) (q_X1_readProduct : (Nat → Int32) → Int32 → (Nat → Int32) → Int32 → Int32 → Int32 → Int32 → Int32 → Int32 → Option ((Nat → Int32) × Int32 × Int32 × Int32 × Int32 × Int32)) (q_X1_readUnit : (Nat → Int32) → Int32 → (Nat → Int32) → Int32 → Int32 → Int32 → Int32 → Int32 → Int32 → Option ((Nat → Int32) × Int32 × Int32 × Int32 × Int32 × Int32)) (q_X1_readOpen : (Nat → Int32) → Int32 → (Nat → Int32) → Int32 → Int32 → Int32 → Int32 → Int32 → Int32 → Int32 → Option ((Nat → Int32) × Int32 × Int32 × Int32 × Int32 × Int32)) (t_bytes : Nat → Int32) (t_end : Int32) (n1 : Int32) : Nat → Int32 → (Nat → Int32) → Int32 → Int32 → Int32 → Int32 → Int32 → Option ((Nat → Int32) × Int32 × Int32 × Int32 × Int32 × Int32)
  | 0, _, _, _, _, _, _, _ => none
  | n + 1, x3, l_code, l_length, t_at, t_start, t_faultKind, t_faultPlace => if 150 ≤ x3 then some (l_code, l_length, t_at, t_start, t_faultKind, t_faultPlace) else b3 (f_X7_takes t_bytes t_end t_at t_start t_faultKind 43) (fun v9 c10 c11 => if v9 = 0 then b3 (f_X7_takes t_bytes t_end c10 c11 t_faultKind 45) (fun v12 c13 c14 => if v12 = 0 then f_X1_readSum_44 q_X1_readSum q_X1_readProduct q_X1_readUnit q_X1_readOpen t_bytes t_end n1 (f_X1_readSum_8 q_X1_readSum q_X1_readProduct q_X1_readUnit q_X1_readOpen t_bytes t_end n1 n) x3 0 l_code l_length c13 c14 t_faultKind t_faultPlace else f_X1_readSum_44 q_X1_readSum q_X1_readProduct q_X1_readUnit q_X1_readOpen t_bytes t_end n1 (f_X1_readSum_8 q_X1_readSum q_X1_readProduct q_X1_readUnit q_X1_readOpen t_bytes t_end n1 n) x3 (-9) l_code l_length c13 c14 t_faultKind t_faultPlace) else f_X1_readSum_44 q_X1_readSum q_X1_readProduct q_X1_readUnit q_X1_readOpen t_bytes t_end n1 (f_X1_readSum_8 q_X1_readSum q_X1_readProduct q_X1_readUnit q_X1_readOpen t_bytes t_end n1 n) x3 (-8) l_code l_length c10 c11 t_faultKind t_faultPlace)
noncomputable def f_X1_readSum_b (q_X1_readSum : (Nat → Int32) → Int32 → (Nat → Int32) → Int32 → Int32 → Int32 → Int32 → Int32 → Int32 → Option ((Nat → Int32) × Int32 × Int32 × Int32 × Int32 × Int32)) (q_X1_readProduct : (Nat → Int32) → Int32 → (Nat → Int32) → Int32 → Int32 → Int32 → Int32 → Int32 → Int32 → Option ((Nat → Int32) × Int32 × Int32 × Int32 × Int32 × Int32)) (q_X1_readUnit : (Nat → Int32) → Int32 → (Nat → Int32) → Int32 → Int32 → Int32 → Int32 → Int32 → Int32 → Option ((Nat → Int32) × Int32 × Int32 × Int32 × Int32 × Int32)) (q_X1_readOpen : (Nat → Int32) → Int32 → (Nat → Int32) → Int32 → Int32 → Int32 → Int32 → Int32 → Int32 → Int32 → Option ((Nat → Int32) × Int32 × Int32 × Int32 × Int32 × Int32)) (l_code : Nat → Int32) (l_length : Int32) (t_bytes : Nat → Int32) (t_end : Int32) (t_at : Int32) (t_start : Int32) (t_faultKind : Int32) (t_faultPlace : Int32) (n1 : Int32) : Option ((Nat → Int32) × Int32 × Int32 × Int32 × Int32 × Int32) := b6 (q_X1_readProduct l_code l_length t_bytes t_end t_at t_start t_faultKind t_faultPlace n1) (fun c15 c16 c17 c18 c19 c20 => f_X1_readSum_8 q_X1_readSum q_X1_readProduct q_X1_readUnit q_X1_readOpen t_bytes t_end n1 FU 0 c15 c16 c17 c18 c19 c20)
noncomputable def f_X1_readProduct_58  (q_X1_readSum : (Nat → Int32) → Int32 → (Nat → Int32) → Int32 → Int32 → Int32 → Int32 → Int32 → Int32 → Option ((Nat → Int32) × Int32 × Int32 × Int32 × Int32 × Int32)) (q_X1_readProduct : (Nat → Int32) → Int32 → (Nat → Int32) → Int32 → Int32 → Int32 → Int32 → Int32 → Int32 → Option ((Nat → Int32) × Int32 × Int32 × Int32 × Int32 × Int32)) (q_X1_readUnit : (Nat → Int32) → Int32 → (Nat → Int32) → Int32 → Int32 → Int32 → Int32 → Int32 → Int32 → Option ((Nat → Int32) × Int32 × Int32 × Int32 × Int32 × Int32)) (q_X1_readOpen : (Nat → Int32) → Int32 → (Nat → Int32) → Int32 → Int32 → Int32 → Int32 → Int32 → Int32 → Int32 → Option ((Nat → Int32) × Int32 × Int32 × Int32 × Int32 × Int32)) (t_bytes : Nat → Int32) (t_end : Int32) (n1 : Int32) (k8 : Int32 → (Nat → Int32) → Int32 → Int32 → Int32 → Int32 → Int32 → Option ((Nat → Int32) × Int32 × Int32 × Int32 × Int32 × Int32)) (x3 : Int32) (y0 : Int32) (l_code : Nat → Int32) (l_length : Int32) (t_at : Int32) (t_start : Int32) (t_faultKind : Int32) (t_faultPlace : Int32) : Option ((Nat → Int32) × Int32 × Int32 × Int32 × Int32 × Int32) := if y0 = 0 then some (l_code, l_length, t_at, t_start, t_faultKind, t_faultPlace) else b6 (q_X1_readUnit l_code l_length t_bytes t_end t_at t_start t_faultKind t_faultPlace n1) (fun c1 c2 c3 c4 c5 c6 => b2 (f_X1_add c1 c2 y0) (fun c7 c8 => k8 (x3 + 1) c7 c8 c3 c4 c5 c6))
noncomputable def f_X1_readProduct_8  (q_X1_readSum : (Nat → Int32) → Int32 → (Nat → Int32) → Int32 → Int32 → Int32 → Int32 → Int32 → Int32 → Option ((Nat → Int32) × Int32 × Int32 × Int32 × Int32 × Int32)) (q_X1_readProduct : (Nat → Int32) → Int32 → (Nat → Int32) → Int32 → Int32 → Int32 → Int32 → Int32 → Int32 → Option ((Nat → Int32) × Int32 × Int32 × Int32 × Int32 × Int32)) (q_X1_readUnit : (Nat → Int32) → Int32 → (Nat → Int32) → Int32 → Int32 → Int32 → Int32 → Int32 → Int32 → Option ((Nat → Int32) × Int32 × Int32 × Int32 × Int32 × Int32)) (q_X1_readOpen : (Nat → Int32) → Int32 → (Nat → Int32) → Int32 → Int32 → Int32 → Int32 → Int32 → Int32 → Int32 → Option ((Nat → Int32) × Int32 × Int32 × Int32 × Int32 × Int32)) (t_bytes : Nat → Int32) (t_end : Int32) (n1 : Int32) : Nat → Int32 → (Nat → Int32) → Int32 → Int32 → Int32 → Int32 → Int32 → Option ((Nat → Int32) × Int32 × Int32 × Int32 × Int32 × Int32)
  | 0, _, _, _, _, _, _, _ => none
  | n + 1, x3, l_code, l_length, t_at, t_start, t_faultKind, t_faultPlace => if 150 ≤ x3 then some (l_code, l_length, t_at, t_start, t_faultKind, t_faultPlace) else b3 (f_X7_takes t_bytes t_end t_at t_start t_faultKind 42) (fun v9 c10 c11 => if v9 = 0 then b3 (f_X7_takes t_bytes t_end c10 c11 t_faultKind 47) (fun v12 c13 c14 => if v12 = 0 then b3 (f_X7_takes t_bytes t_end c13 c14 t_faultKind 37) (fun v15 c16 c17 => if v15 = 0 then f_X1_readProduct_58 q_X1_readSum q_X1_readProduct q_X1_readUnit q_X1_readOpen t_bytes t_end n1 (f_X1_readProduct_8 q_X1_readSum q_X1_readProduct q_X1_readUnit q_X1_readOpen t_bytes t_end n1 n) x3 0 l_code l_length c16 c17 t_faultKind t_faultPlace else f_X1_readProduct_58 q_X1_readSum q_X1_readProduct q_X1_readUnit q_X1_readOpen t_bytes t_end n1 (f_X1_readProduct_8 q_X1_readSum q_X1_readProduct q_X1_readUnit q_X1_readOpen t_bytes t_end n1 n) x3 (-12) l_code l_length c16 c17 t_faultKind t_faultPlace) else f_X1_readProduct_58 q_X1_readSum q_X1_readProduct q_X1_readUnit q_X1_readOpen t_bytes t_end n1 (f_X1_readProduct_8 q_X1_readSum q_X1_readProduct q_X1_readUnit q_X1_readOpen t_bytes t_end n1 n) x3 (-11) l_code l_length c13 c14 t_faultKind t_faultPlace) else f_X1_readProduct_58 q_X1_readSum q_X1_readProduct q_X1_readUnit q_X1_readOpen t_bytes t_end n1 (f_X1_readProduct_8 q_X1_readSum q_X1_readProduct q_X1_readUnit q_X1_readOpen t_bytes t_end n1 n) x3 (-10) l_code l_length c10 c11 t_faultKind t_faultPlace)
noncomputable def f_X1_readProduct_b (q_X1_readSum : (Nat → Int32) → Int32 → (Nat → Int32) → Int32 → Int32 → Int32 → Int32 → Int32 → Int32 → Option ((Nat → Int32) × Int32 × Int32 × Int32 × Int32 × Int32)) (q_X1_readProduct : (Nat → Int32) → Int32 → (Nat → Int32) → Int32 → Int32 → Int32 → Int32 → Int32 → Int32 → Option ((Nat → Int32) × Int32 × Int32 × Int32 × Int32 × Int32)) (q_X1_readUnit : (Nat → Int32) → Int32 → (Nat → Int32) → Int32 → Int32 → Int32 → Int32 → Int32 → Int32 → Option ((Nat → Int32) × Int32 × Int32 × Int32 × Int32 × Int32)) (q_X1_readOpen : (Nat → Int32) → Int32 → (Nat → Int32) → Int32 → Int32 → Int32 → Int32 → Int32 → Int32 → Int32 → Option ((Nat → Int32) × Int32 × Int32 × Int32 × Int32 × Int32)) (l_code : Nat → Int32) (l_length : Int32) (t_bytes : Nat → Int32) (t_end : Int32) (t_at : Int32) (t_start : Int32) (t_faultKind : Int32) (t_faultPlace : Int32) (n1 : Int32) : Option ((Nat → Int32) × Int32 × Int32 × Int32 × Int32 × Int32) := b6 (q_X1_readUnit l_code l_length t_bytes t_end t_at t_start t_faultKind t_faultPlace n1) (fun c18 c19 c20 c21 c22 c23 => f_X1_readProduct_8 q_X1_readSum q_X1_readProduct q_X1_readUnit q_X1_readOpen t_bytes t_end n1 FU 0 c18 c19 c20 c21 c22 c23)
noncomputable def f_X1_readUnit_b (q_X1_readSum : (Nat → Int32) → Int32 → (Nat → Int32) → Int32 → Int32 → Int32 → Int32 → Int32 → Int32 → Option ((Nat → Int32) × Int32 × Int32 × Int32 × Int32 × Int32)) (q_X1_readProduct : (Nat → Int32) → Int32 → (Nat → Int32) → Int32 → Int32 → Int32 → Int32 → Int32 → Int32 → Option ((Nat → Int32) × Int32 × Int32 × Int32 × Int32 × Int32)) (q_X1_readUnit : (Nat → Int32) → Int32 → (Nat → Int32) → Int32 → Int32 → Int32 → Int32 → Int32 → Int32 → Option ((Nat → Int32) × Int32 × Int32 × Int32 × Int32 × Int32)) (q_X1_readOpen : (Nat → Int32) → Int32 → (Nat → Int32) → Int32 → Int32 → Int32 → Int32 → Int32 → Int32 → Int32 → Option ((Nat → Int32) × Int32 × Int32 × Int32 × Int32 × Int32)) (l_code : Nat → Int32) (l_length : Int32) (t_bytes : Nat → Int32) (t_end : Int32) (t_at : Int32) (t_start : Int32) (t_faultKind : Int32) (t_faultPlace : Int32) (n1 : Int32) : Option ((Nat → Int32) × Int32 × Int32 × Int32 × Int32 × Int32) := b3 (f_X7_isAtNumber t_bytes t_end t_at t_start t_faultKind) (fun v1 c2 c3 => if v1 = 0 then b3 (f_X7_takes t_bytes t_end c2 c3 t_faultKind 40) (fun v4 c5 c6 => if v4 = 0 then b3 (f_X7_takes_ t_bytes t_end c5 c6 t_faultKind 3) (fun v7 c8 c9 => if v7 = 0 then b3 (f_X7_takes_ t_bytes t_end c8 c9 t_faultKind 4) (fun v10 c11 c12 => if v10 = 0 then b6 (f_X1_readValue l_code l_length t_bytes t_end c11 c12 t_faultKind t_faultPlace) (fun c13 c14 c15 c16 c17 c18 => some (c13, c14, c15, c16, c17, c18)) else b6 (q_X1_readOpen l_code l_length t_bytes t_end c11 c12 t_faultKind t_faultPlace n1 (-14)) (fun c19 c20 c21 c22 c23 c24 => some (c19, c20, c21, c22, c23, c24))) else b6 (q_X1_readOpen l_code l_length t_bytes t_end c8 c9 t_faultKind t_faultPlace n1 (-13)) (fun c25 c26 c27 c28 c29 c30 => some (c25, c26, c27, c28, c29, c30))) else b6 (q_X1_readOpen l_code l_length t_bytes t_end c5 c6 t_faultKind t_faultPlace n1 0) (fun c31 c32 c33 c34 c35 c36 => some (c31, c32, c33, c34, c35, c36))) else b5 (f_X7_number t_bytes t_end c2 c3 t_faultKind t_faultPlace 0 999) (fun v37 c38 c39 c40 c41 => b2 (f_X1_add l_code l_length v37) (fun c42 c43 => some (c42, c43, c38, c39, c40, c41))))
noncomputable def f_X1_readOpen_b (q_X1_readSum : (Nat → Int32) → Int32 → (Nat → Int32) → Int32 → Int32 → Int32 → Int32 → Int32 → Int32 → Option ((Nat → Int32) × Int32 × Int32 × Int32 × Int32 × Int32)) (q_X1_readProduct : (Nat → Int32) → Int32 → (Nat → Int32) → Int32 → Int32 → Int32 → Int32 → Int32 → Int32 → Option ((Nat → Int32) × Int32 × Int32 × Int32 × Int32 × Int32)) (q_X1_readUnit : (Nat → Int32) → Int32 → (Nat → Int32) → Int32 → Int32 → Int32 → Int32 → Int32 → Int32 → Option ((Nat → Int32) × Int32 × Int32 × Int32 × Int32 × Int32)) (q_X1_readOpen : (Nat → Int32) → Int32 → (Nat → Int32) → Int32 → Int32 → Int32 → Int32 → Int32 → Int32 → Int32 → Option ((Nat → Int32) × Int32 × Int32 × Int32 × Int32 × Int32)) (l_code : Nat → Int32) (l_length : Int32) (t_bytes : Nat → Int32) (t_end : Int32) (t_at : Int32) (t_start : Int32) (t_faultKind : Int32) (t_faultPlace : Int32) (n1 : Int32) (n2 : Int32) : Option ((Nat → Int32) × Int32 × Int32 × Int32 × Int32 × Int32) := if n1 < 6 then if n2 = 0 then b6 (q_X1_readSum l_code l_length t_bytes t_end t_at t_start t_faultKind t_faultPlace (n1 + 1)) (fun c27 c28 c29 c30 c31 c32 => b4 (f_X7_need t_bytes t_end c29 c30 c31 c32 41) (fun c33 c34 c35 c36 => some (c27, c28, c33, c34, c35, c36))) else b4 (f_X7_need t_bytes t_end t_at t_start t_faultKind t_faultPlace 91) (fun c1 c2 c3 c4 => b6 (q_X1_readSum l_code l_length t_bytes t_end c1 c2 c3 c4 (n1 + 1)) (fun c5 c6 c7 c8 c9 c10 => b4 (f_X7_need t_bytes t_end c7 c8 c9 c10 44) (fun c11 c12 c13 c14 => b6 (q_X1_readSum c5 c6 t_bytes t_end c11 c12 c13 c14 (n1 + 1)) (fun c15 c16 c17 c18 c19 c20 => b4 (f_X7_need t_bytes t_end c17 c18 c19 c20 93) (fun c21 c22 c23 c24 => b2 (f_X1_add c15 c16 n2) (fun c25 c26 => some (c25, c26, c21, c22, c23, c24))))))) else b2 (f_X7_blame t_start t_faultKind t_faultPlace 3) (fun c37 c38 => some (l_code, l_length, t_at, t_start, c37, c38))
noncomputable def F_ls : Nat → ((Nat → Int32) → Int32 → (Nat → Int32) → Int32 → Int32 → Int32 → Int32 → Int32 → Int32 → Option ((Nat → Int32) × Int32 × Int32 × Int32 × Int32 × Int32)) × ((Nat → Int32) → Int32 → (Nat → Int32) → Int32 → Int32 → Int32 → Int32 → Int32 → Int32 → Option ((Nat → Int32) × Int32 × Int32 × Int32 × Int32 × Int32)) × ((Nat → Int32) → Int32 → (Nat → Int32) → Int32 → Int32 → Int32 → Int32 → Int32 → Int32 → Option ((Nat → Int32) × Int32 × Int32 × Int32 × Int32 × Int32)) × ((Nat → Int32) → Int32 → (Nat → Int32) → Int32 → Int32 → Int32 → Int32 → Int32 → Int32 → Int32 → Option ((Nat → Int32) × Int32 × Int32 × Int32 × Int32 × Int32))
  | 0 => (fun _ _ _ _ _ _ _ _ _ => none, fun _ _ _ _ _ _ _ _ _ => none, fun _ _ _ _ _ _ _ _ _ => none, fun _ _ _ _ _ _ _ _ _ _ => none)
  | d + 1 => (f_X1_readSum_b (F_ls d).1 (F_ls d).2.1 (F_ls d).2.2.1 (F_ls d).2.2.2, f_X1_readProduct_b (F_ls d).1 (F_ls d).2.1 (F_ls d).2.2.1 (F_ls d).2.2.2, f_X1_readUnit_b (F_ls d).1 (F_ls d).2.1 (F_ls d).2.2.1 (F_ls d).2.2.2, f_X1_readOpen_b (F_ls d).1 (F_ls d).2.1 (F_ls d).2.2.1 (F_ls d).2.2.2)
noncomputable def f_X1_readSum (d : Nat) : (Nat → Int32) → Int32 → (Nat → Int32) → Int32 → Int32 → Int32 → Int32 → Int32 → Int32 → Option ((Nat → Int32) × Int32 × Int32 × Int32 × Int32 × Int32) := (F_ls d).1
noncomputable def f_X1_readProduct (d : Nat) : (Nat → Int32) → Int32 → (Nat → Int32) → Int32 → Int32 → Int32 → Int32 → Int32 → Int32 → Option ((Nat → Int32) × Int32 × Int32 × Int32 × Int32 × Int32) := (F_ls d).2.1
noncomputable def f_X1_readUnit (d : Nat) : (Nat → Int32) → Int32 → (Nat → Int32) → Int32 → Int32 → Int32 → Int32 → Int32 → Int32 → Option ((Nat → Int32) × Int32 × Int32 × Int32 × Int32 × Int32) := (F_ls d).2.2.1
noncomputable def f_X1_readOpen (d : Nat) : (Nat → Int32) → Int32 → (Nat → Int32) → Int32 → Int32 → Int32 → Int32 → Int32 → Int32 → Int32 → Option ((Nat → Int32) × Int32 × Int32 × Int32 × Int32 × Int32) := (F_ls d).2.2.2
theorem f_X1_readSum_s (d : Nat) : f_X1_readSum (d + 1) = f_X1_readSum_b (f_X1_readSum d) (f_X1_readProduct d) (f_X1_readUnit d) (f_X1_readOpen d) := rfl
theorem f_X1_readProduct_s (d : Nat) : f_X1_readProduct (d + 1) = f_X1_readProduct_b (f_X1_readSum d) (f_X1_readProduct d) (f_X1_readUnit d) (f_X1_readOpen d) := rfl
theorem f_X1_readUnit_s (d : Nat) : f_X1_readUnit (d + 1) = f_X1_readUnit_b (f_X1_readSum d) (f_X1_readProduct d) (f_X1_readUnit d) (f_X1_readOpen d) := rfl
theorem f_X1_readOpen_s (d : Nat) : f_X1_readOpen (d + 1) = f_X1_readOpen_b (f_X1_readSum d) (f_X1_readProduct d) (f_X1_readUnit d) (f_X1_readOpen d) := rfl
def rm_ls (d : Nat) : Room := { frames := 6 + d, cells := 0, slots := 0, locals := 186 + 24 * d }
theorem rm_ls_f (d : Nat) : (rm_ls d).frames + 1 ≤ (rm_ls (d + 1)).frames := Nat.le_refl _
theorem rm_ls_l (d : Nat) {n : Nat} (h : 8 + (n + 11) ≤ 24) : 8 + (n + 11) + (rm_ls d).locals ≤ (rm_ls (d + 1)).locals := by simp only [rm_ls]; omega
theorem rm_ls_f0 (d : Nat) {n : Nat} (h : n ≤ 6) : n ≤ (rm_ls (d + 1)).frames := Nat.le_trans h (Nat.le_add_right _ _)
theorem rm_ls_l0 (d : Nat) {n : Nat} (h : n ≤ 186) : n ≤ (rm_ls (d + 1)).locals := Nat.le_trans h (Nat.le_add_right _ _)
def K_X1_readSum (J : Jt) (q : (Nat → Int32) → Int32 → (Nat → Int32) → Int32 → Int32 → Int32 → Int32 → Int32 → Int32 → Option ((Nat → Int32) × Int32 × Int32 × Int32 × Int32 × Int32)) (R : Room) : Prop := ∀ (a0 : Nat → Nat) (a1 : Nat → Nat) (l_code : Nat → Int32) (l_values : Nat → Int32) (l_stack : Nat → Int32) (l_length : Int32) (t_bytes : Nat → Int32) (t_held : Int32) (t_end : Int32) (t_at : Int32) (t_start : Int32) (t_faultKind : Int32) (t_faultPlace : Int32) (n1 : Int32) (o_l_code : Nat → Int32) (o_l_length : Int32) (o_t_at : Int32) (o_t_start : Int32) (o_t_faultKind : Int32) (o_t_faultPlace : Int32), q l_code l_length t_bytes t_end t_at t_start t_faultKind t_faultPlace n1 = some (o_l_code, o_l_length, o_t_at, o_t_start, o_t_faultKind, o_t_faultPlace) → Mt J yX1_readSum cX1_readSum 5 none R [.ref (a0 0), .ref (a1 0), .int n1] (cs_X1 J.2.2.1 a0 l_code l_values l_stack l_length ++ cs_X7 J.2.2.1 a1 t_bytes t_held t_end t_at t_start t_faultKind t_faultPlace) none (cs_X1 J.2.2.1 a0 o_l_code l_values l_stack o_l_length ++ cs_X7 J.2.2.1 a1 t_bytes t_held t_end o_t_at o_t_start o_t_faultKind o_t_faultPlace)
def K_X1_readProduct (J : Jt) (q : (Nat → Int32) → Int32 → (Nat → Int32) → Int32 → Int32 → Int32 → Int32 → Int32 → Int32 → Option ((Nat → Int32) × Int32 × Int32 × Int32 × Int32 × Int32)) (R : Room) : Prop := ∀ (a0 : Nat → Nat) (a1 : Nat → Nat) (l_code : Nat → Int32) (l_values : Nat → Int32) (l_stack : Nat → Int32) (l_length : Int32) (t_bytes : Nat → Int32) (t_held : Int32) (t_end : Int32) (t_at : Int32) (t_start : Int32) (t_faultKind : Int32) (t_faultPlace : Int32) (n1 : Int32) (o_l_code : Nat → Int32) (o_l_length : Int32) (o_t_at : Int32) (o_t_start : Int32) (o_t_faultKind : Int32) (o_t_faultPlace : Int32), q l_code l_length t_bytes t_end t_at t_start t_faultKind t_faultPlace n1 = some (o_l_code, o_l_length, o_t_at, o_t_start, o_t_faultKind, o_t_faultPlace) → Mt J yX1_readProduct cX1_readProduct 5 none R [.ref (a0 0), .ref (a1 0), .int n1] (cs_X1 J.2.2.1 a0 l_code l_values l_stack l_length ++ cs_X7 J.2.2.1 a1 t_bytes t_held t_end t_at t_start t_faultKind t_faultPlace) none (cs_X1 J.2.2.1 a0 o_l_code l_values l_stack o_l_length ++ cs_X7 J.2.2.1 a1 t_bytes t_held t_end o_t_at o_t_start o_t_faultKind o_t_faultPlace)
def K_X1_readUnit (J : Jt) (q : (Nat → Int32) → Int32 → (Nat → Int32) → Int32 → Int32 → Int32 → Int32 → Int32 → Int32 → Option ((Nat → Int32) × Int32 × Int32 × Int32 × Int32 × Int32)) (R : Room) : Prop := ∀ (a0 : Nat → Nat) (a1 : Nat → Nat) (l_code : Nat → Int32) (l_values : Nat → Int32) (l_stack : Nat → Int32) (l_length : Int32) (t_bytes : Nat → Int32) (t_held : Int32) (t_end : Int32) (t_at : Int32) (t_start : Int32) (t_faultKind : Int32) (t_faultPlace : Int32) (n1 : Int32) (o_l_code : Nat → Int32) (o_l_length : Int32) (o_t_at : Int32) (o_t_start : Int32) (o_t_faultKind : Int32) (o_t_faultPlace : Int32), q l_code l_length t_bytes t_end t_at t_start t_faultKind t_faultPlace n1 = some (o_l_code, o_l_length, o_t_at, o_t_start, o_t_faultKind, o_t_faultPlace) → Mt J yX1_readUnit cX1_readUnit 3 none R [.ref (a0 0), .ref (a1 0), .int n1] (cs_X1 J.2.2.1 a0 l_code l_values l_stack l_length ++ cs_X7 J.2.2.1 a1 t_bytes t_held t_end t_at t_start t_faultKind t_faultPlace) none (cs_X1 J.2.2.1 a0 o_l_code l_values l_stack o_l_length ++ cs_X7 J.2.2.1 a1 t_bytes t_held t_end o_t_at o_t_start o_t_faultKind o_t_faultPlace)
def K_X1_readOpen (J : Jt) (q : (Nat → Int32) → Int32 → (Nat → Int32) → Int32 → Int32 → Int32 → Int32 → Int32 → Int32 → Int32 → Option ((Nat → Int32) × Int32 × Int32 × Int32 × Int32 × Int32)) (R : Room) : Prop := ∀ (a0 : Nat → Nat) (a1 : Nat → Nat) (l_code : Nat → Int32) (l_values : Nat → Int32) (l_stack : Nat → Int32) (l_length : Int32) (t_bytes : Nat → Int32) (t_held : Int32) (t_end : Int32) (t_at : Int32) (t_start : Int32) (t_faultKind : Int32) (t_faultPlace : Int32) (n1 : Int32) (n2 : Int32) (o_l_code : Nat → Int32) (o_l_length : Int32) (o_t_at : Int32) (o_t_start : Int32) (o_t_faultKind : Int32) (o_t_faultPlace : Int32), q l_code l_length t_bytes t_end t_at t_start t_faultKind t_faultPlace n1 n2 = some (o_l_code, o_l_length, o_t_at, o_t_start, o_t_faultKind, o_t_faultPlace) → Mt J yX1_readOpen cX1_readOpen 4 none R [.ref (a0 0), .ref (a1 0), .int n1, .int n2] (cs_X1 J.2.2.1 a0 l_code l_values l_stack l_length ++ cs_X7 J.2.2.1 a1 t_bytes t_held t_end t_at t_start t_faultKind t_faultPlace) none (cs_X1 J.2.2.1 a0 o_l_code l_values l_stack o_l_length ++ cs_X7 J.2.2.1 a1 t_bytes t_held t_end o_t_at o_t_start o_t_faultKind o_t_faultPlace)

set_option maxRecDepth 100000 in
set_option maxHeartbeats 4000000 in
theorem j_X1_readSum_44 {J : Jt} {Z : Zt} {d : Nat} {q_X1_readSum : (Nat → Int32) → Int32 → (Nat → Int32) → Int32 → Int32 → Int32 → Int32 → Int32 → Int32 → Option ((Nat → Int32) × Int32 × Int32 × Int32 × Int32 × Int32)} {q_X1_readProduct : (Nat → Int32) → Int32 → (Nat → Int32) → Int32 → Int32 → Int32 → Int32 → Int32 → Int32 → Option ((Nat → Int32) × Int32 × Int32 × Int32 × Int32 × Int32)} {q_X1_readUnit : (Nat → Int32) → Int32 → (Nat → Int32) → Int32 → Int32 → Int32 → Int32 → Int32 → Int32 → Option ((Nat → Int32) × Int32 × Int32 × Int32 × Int32 × Int32)} {q_X1_readOpen : (Nat → Int32) → Int32 → (Nat → Int32) → Int32 → Int32 → Int32 → Int32 → Int32 → Int32 → Int32 → Option ((Nat → Int32) × Int32 × Int32 × Int32 × Int32 × Int32)} {a0 : Nat → Nat} {a1 : Nat → Nat} {l_values : Nat → Int32} {l_stack : Nat → Int32} {t_bytes : Nat → Int32} {t_held : Int32} {t_end : Int32} {n1 : Int32} {o_l_code : Nat → Int32} {o_l_length : Int32} {o_t_at : Int32} {o_t_start : Int32} {o_t_faultKind : Int32} {o_t_faultPlace : Int32} {k8 : Int32 → (Nat → Int32) → Int32 → Int32 → Int32 → Int32 → Int32 → Option ((Nat → Int32) × Int32 × Int32 × Int32 × Int32 × Int32)} (C : Cx J Z cX1_readSum 5 RX1 none (rm_ls (d + 1))) (E : Ez J Z 0 0 none (cs_X1 J.2.2.1 a0 o_l_code l_values l_stack o_l_length ++ cs_X7 J.2.2.1 a1 t_bytes t_held t_end o_t_at o_t_start o_t_faultKind o_t_faultPlace)) (hq_X1_readSum : K_X1_readSum J q_X1_readSum (rm_ls d)) (hq_X1_readProduct : K_X1_readProduct J q_X1_readProduct (rm_ls d)) (hq_X1_readUnit : K_X1_readUnit J q_X1_readUnit (rm_ls d)) (hq_X1_readOpen : K_X1_readOpen J q_X1_readOpen (rm_ls d)) (hk8 : ∀ (x3 : Int32) (l_code : Nat → Int32) (l_length : Int32) (t_at : Int32) (t_start : Int32) (t_faultKind : Int32) (t_faultPlace : Int32), k8 x3 l_code l_length t_at t_start t_faultKind t_faultPlace = some (o_l_code, o_l_length, o_t_at, o_t_start, o_t_faultKind, o_t_faultPlace) → G J Z 0 0 (cs_X1 J.2.2.1 a0 l_code l_values l_stack l_length ++ cs_X7 J.2.2.1 a1 t_bytes t_held t_end t_at t_start t_faultKind t_faultPlace) 5 [(0, .ref (a0 0)), (1, .ref (a1 0)), (2, .int n1), (3, .int x3)] 8 []) : ∀ (x3 : Int32) (y0 : Int32) (l_code : Nat → Int32) (l_length : Int32) (t_at : Int32) (t_start : Int32) (t_faultKind : Int32) (t_faultPlace : Int32), f_X1_readSum_44 q_X1_readSum q_X1_readProduct q_X1_readUnit q_X1_readOpen t_bytes t_end n1 k8 x3 y0 l_code l_length t_at t_start t_faultKind t_faultPlace = some (o_l_code, o_l_length, o_t_at, o_t_start, o_t_faultKind, o_t_faultPlace) → G J Z 0 0 (cs_X1 J.2.2.1 a0 l_code l_values l_stack l_length ++ cs_X7 J.2.2.1 a1 t_bytes t_held t_end t_at t_start t_faultKind t_faultPlace) 5 [(0, .ref (a0 0)), (1, .ref (a1 0)), (2, .int n1), (3, .int x3)] 44 [.int y0] := by
  intro x3 y0 l_code l_length t_at t_start t_faultKind t_faultPlace h
  unfold f_X1_readSum_44 at h
  refine g_istore (pc := 44) C [(4, .int y0), (0, .ref (a0 0)), (1, .ref (a1 0)), (2, .int n1), (3, .int x3)] dX1_readSum_44 (by decide) rfl ?_
  refine g_iload (pc := 46) C 0 rfl dX1_readSum_46 ?_
  refine g_if_ne (pc := 48) C (tgt := 52) dX1_readSum_48 rfl h (fun h => ?_) (fun h => ?_)
  · refine g_aload_n (pc := 52) C 1 rfl dX1_readSum_52 ?_
    refine g_aload_n (pc := 53) C 2 rfl dX1_readSum_53 ?_
    refine g_iload_n (pc := 54) C 3 rfl dX1_readSum_54 ?_
    obtain ⟨c1, c2, c3, c4, c5, c6, hc, h⟩ := b6_of h
    refine g_callV (pc := 55) C (w' := cs_X1 J.2.2.1 a0 c1 l_values l_stack c2 ++ cs_X7 J.2.2.1 a1 t_bytes t_held t_end c3 c4 c5 c6) (As := [.ref (a1 0), .int n1]) (st := []) (ci := 1) (q0 := 0) rfl rfl (hq_X1_readProduct a0 a1 _ _ _ _ _ _ _ _ _ _ _ _ _ _ _ _ _ _ hc) Sub.same kw_763 kw_765 kw_6 kw_93 hy_X1_readProduct kw_766 rfl (rm_ls_f d) (rm_ls_l d (Nat.le_of_ble_eq_true rfl)) (Nat.le_of_ble_eq_true rfl) (Nat.le_of_ble_eq_true rfl) (Nat.le_of_ble_eq_true rfl) dX1_readSum_55 ?_
    refine g_aload_n (pc := 58) C 1 rfl dX1_readSum_58 ?_
    refine g_iload (pc := 59) C 0 rfl dX1_readSum_59 ?_
    obtain ⟨c7, c8, hc, h⟩ := b2_of h
    refine g_callV (pc := 61) C (w' := cs_X1 J.2.2.1 a0 c7 l_values l_stack c8 ++ cs_X7 J.2.2.1 a1 t_bytes t_held t_end c3 c4 c5 c6) (As := [.int y0]) (st := []) (ci := 1) (q0 := 0) rfl rfl (t_X1_add (a0 := a0) hc) (Sub.gen [0, 1, 2, 3] [4, 5] [2, 3, 4, 5, 0, 1] rfl (by decide) rfl (by decide) (by decide) rfl (by decide)) kw_331 kw_332 kw_333 kw_93 hy_X1_add kw_334 rfl (rm_ls_f0 d (Nat.le_of_ble_eq_true rfl)) (rm_ls_l0 d (Nat.le_of_ble_eq_true rfl)) (Nat.le_of_ble_eq_true rfl) (Nat.le_of_ble_eq_true rfl) (Nat.le_of_ble_eq_true rfl) dX1_readSum_61 ?_
    refine g_iinc (pc := 64) C (j := 4) [(3, .int (x3 + 1)), (4, .int y0), (0, .ref (a0 0)), (1, .ref (a1 0)), (2, .int n1)] dX1_readSum_64 rfl (ii_1 _) (by decide) rfl ?_
    refine g_goto (pc := 67) C (tgt := 8) dX1_readSum_67 rfl ?_
    refine g_lv [2, 3, 4, 0] rfl ?_
    exact hk8 (x3 + 1) c7 c8 c3 c4 c5 c6 h
  · cases h
    exact g_vret C E dX1_readSum_51
set_option maxRecDepth 100000 in
set_option maxHeartbeats 4000000 in
theorem j_X1_readSum_8 {J : Jt} {Z : Zt} {d : Nat} {q_X1_readSum : (Nat → Int32) → Int32 → (Nat → Int32) → Int32 → Int32 → Int32 → Int32 → Int32 → Int32 → Option ((Nat → Int32) × Int32 × Int32 × Int32 × Int32 × Int32)} {q_X1_readProduct : (Nat → Int32) → Int32 → (Nat → Int32) → Int32 → Int32 → Int32 → Int32 → Int32 → Int32 → Option ((Nat → Int32) × Int32 × Int32 × Int32 × Int32 × Int32)} {q_X1_readUnit : (Nat → Int32) → Int32 → (Nat → Int32) → Int32 → Int32 → Int32 → Int32 → Int32 → Int32 → Option ((Nat → Int32) × Int32 × Int32 × Int32 × Int32 × Int32)} {q_X1_readOpen : (Nat → Int32) → Int32 → (Nat → Int32) → Int32 → Int32 → Int32 → Int32 → Int32 → Int32 → Int32 → Option ((Nat → Int32) × Int32 × Int32 × Int32 × Int32 × Int32)} {a0 : Nat → Nat} {a1 : Nat → Nat} {l_values : Nat → Int32} {l_stack : Nat → Int32} {t_bytes : Nat → Int32} {t_held : Int32} {t_end : Int32} {n1 : Int32} {o_l_code : Nat → Int32} {o_l_length : Int32} {o_t_at : Int32} {o_t_start : Int32} {o_t_faultKind : Int32} {o_t_faultPlace : Int32} (C : Cx J Z cX1_readSum 5 RX1 none (rm_ls (d + 1))) (E : Ez J Z 0 0 none (cs_X1 J.2.2.1 a0 o_l_code l_values l_stack o_l_length ++ cs_X7 J.2.2.1 a1 t_bytes t_held t_end o_t_at o_t_start o_t_faultKind o_t_faultPlace)) (hq_X1_readSum : K_X1_readSum J q_X1_readSum (rm_ls d)) (hq_X1_readProduct : K_X1_readProduct J q_X1_readProduct (rm_ls d)) (hq_X1_readUnit : K_X1_readUnit J q_X1_readUnit (rm_ls d)) (hq_X1_readOpen : K_X1_readOpen J q_X1_readOpen (rm_ls d)) : ∀ (n : Nat) (x3 : Int32) (l_code : Nat → Int32) (l_length : Int32) (t_at : Int32) (t_start : Int32) (t_faultKind : Int32) (t_faultPlace : Int32), f_X1_readSum_8 q_X1_readSum q_X1_readProduct q_X1_readUnit q_X1_readOpen t_bytes t_end n1 n x3 l_code l_length t_at t_start t_faultKind t_faultPlace = some (o_l_code, o_l_length, o_t_at, o_t_start, o_t_faultKind, o_t_faultPlace) → G J Z 0 0 (cs_X1 J.2.2.1 a0 l_code l_values l_stack l_length ++ cs_X7 J.2.2.1 a1 t_bytes t_held t_end t_at t_start t_faultKind t_faultPlace) 5 [(0, .ref (a0 0)), (1, .ref (a1 0)), (2, .int n1), (3, .int x3)] 8 [] := by
  intro n
  induction n with
  | zero =>
    intro x3 l_code l_length t_at t_start t_faultKind t_faultPlace h
    rw [f_X1_readSum_8] at h
    cases h
  | succ n ih =>
    intro x3 l_code l_length t_at t_start t_faultKind t_faultPlace h
    rw [f_X1_readSum_8] at h
    refine g_iload_n (pc := 8) C 3 rfl dX1_readSum_8 ?_
    refine g_sipush (pc := 9) C dX1_readSum_9 cs_150 ?_
    refine g_icmp_ge (pc := 12) C (tgt := 70) dX1_readSum_12 rfl h (fun h => ?_) (fun h => ?_)
    · cases h
      exact g_vret C E dX1_readSum_70
    · refine g_aload_n (pc := 15) C 1 rfl dX1_readSum_15 ?_
      refine g_bipush (pc := 16) C dX1_readSum_16 cb_43 ?_
      obtain ⟨v9, c10, c11, hc, h⟩ := b3_of h
      refine g_callV (pc := 18) C (w' := cs_X1 J.2.2.1 a0 l_code l_values l_stack l_length ++ cs_X7 J.2.2.1 a1 t_bytes t_held t_end c10 c11 t_faultKind t_faultPlace) (As := [.int 43]) (st := []) (ci := 7) (q0 := 4) rfl rfl (t_X7_takes (a0 := a1) hc) (Sub.gen [4, 5] [0, 1, 2, 3] [0, 1, 2, 3, 4, 5] rfl (by decide) rfl (by decide) (by decide) rfl (by decide)) kw_773 kw_774 kw_775 kw_87 hy_X7_takes kw_776 rfl (rm_ls_f0 d (Nat.le_of_ble_eq_true rfl)) (rm_ls_l0 d (Nat.le_of_ble_eq_true rfl)) (Nat.le_of_ble_eq_true rfl) (Nat.le_of_ble_eq_true rfl) (Nat.le_of_ble_eq_true rfl) dX1_readSum_18 ?_
      refine g_if_eq (pc := 21) C (tgt := 29) dX1_readSum_21 rfl h (fun h => ?_) (fun h => ?_)
      · refine g_aload_n (pc := 29) C 1 rfl dX1_readSum_29 ?_
        refine g_bipush (pc := 30) C dX1_readSum_30 cb_45 ?_
        obtain ⟨v12, c13, c14, hc, h⟩ := b3_of h
        refine g_callV (pc := 32) C (w' := cs_X1 J.2.2.1 a0 l_code l_values l_stack l_length ++ cs_X7 J.2.2.1 a1 t_bytes t_held t_end c13 c14 t_faultKind t_faultPlace) (As := [.int 45]) (st := []) (ci := 7) (q0 := 4) rfl rfl (t_X7_takes (a0 := a1) hc) (Sub.gen [4, 5] [0, 1, 2, 3] [0, 1, 2, 3, 4, 5] rfl (by decide) rfl (by decide) (by decide) rfl (by decide)) kw_773 kw_774 kw_775 kw_87 hy_X7_takes kw_776 rfl (rm_ls_f0 d (Nat.le_of_ble_eq_true rfl)) (rm_ls_l0 d (Nat.le_of_ble_eq_true rfl)) (Nat.le_of_ble_eq_true rfl) (Nat.le_of_ble_eq_true rfl) (Nat.le_of_ble_eq_true rfl) dX1_readSum_32 ?_
        refine g_if_eq (pc := 35) C (tgt := 43) dX1_readSum_35 rfl h (fun h => ?_) (fun h => ?_)
        · refine g_iconst (pc := 43) C dX1_readSum_43 ci_0 ?_
          exact j_X1_readSum_44 C E hq_X1_readSum hq_X1_readProduct hq_X1_readUnit hq_X1_readOpen  ih x3 0 l_code l_length c13 c14 t_faultKind t_faultPlace h
        · refine g_bipush (pc := 38) C dX1_readSum_38 cb_m9 ?_
          refine g_goto (pc := 40) C (tgt := 44) dX1_readSum_40 rfl ?_
          exact j_X1_readSum_44 C E hq_X1_readSum hq_X1_readProduct hq_X1_readUnit hq_X1_readOpen  ih x3 (-9) l_code l_length c13 c14 t_faultKind t_faultPlace h
      · refine g_bipush (pc := 24) C dX1_readSum_24 cb_m8 ?_
        refine g_goto (pc := 26) C (tgt := 44) dX1_readSum_26 rfl ?_
        exact j_X1_readSum_44 C E hq_X1_readSum hq_X1_readProduct hq_X1_readUnit hq_X1_readOpen  ih x3 (-8) l_code l_length c10 c11 t_faultKind t_faultPlace h
set_option maxRecDepth 100000 in
set_option maxHeartbeats 4000000 in
theorem t_X1_readSum_b {J : Jt} {d : Nat} {q_X1_readSum : (Nat → Int32) → Int32 → (Nat → Int32) → Int32 → Int32 → Int32 → Int32 → Int32 → Int32 → Option ((Nat → Int32) × Int32 × Int32 × Int32 × Int32 × Int32)} {q_X1_readProduct : (Nat → Int32) → Int32 → (Nat → Int32) → Int32 → Int32 → Int32 → Int32 → Int32 → Int32 → Option ((Nat → Int32) × Int32 × Int32 × Int32 × Int32 × Int32)} {q_X1_readUnit : (Nat → Int32) → Int32 → (Nat → Int32) → Int32 → Int32 → Int32 → Int32 → Int32 → Int32 → Option ((Nat → Int32) × Int32 × Int32 × Int32 × Int32 × Int32)} {q_X1_readOpen : (Nat → Int32) → Int32 → (Nat → Int32) → Int32 → Int32 → Int32 → Int32 → Int32 → Int32 → Int32 → Option ((Nat → Int32) × Int32 × Int32 × Int32 × Int32 × Int32)} {a0 : Nat → Nat} {a1 : Nat → Nat} {l_code : Nat → Int32} {l_values : Nat → Int32} {l_stack : Nat → Int32} {l_length : Int32} {t_bytes : Nat → Int32} {t_held : Int32} {t_end : Int32} {t_at : Int32} {t_start : Int32} {t_faultKind : Int32} {t_faultPlace : Int32} {n1 : Int32} {o_l_code : Nat → Int32} {o_l_length : Int32} {o_t_at : Int32} {o_t_start : Int32} {o_t_faultKind : Int32} {o_t_faultPlace : Int32} (hq_X1_readSum : K_X1_readSum J q_X1_readSum (rm_ls d)) (hq_X1_readProduct : K_X1_readProduct J q_X1_readProduct (rm_ls d)) (hq_X1_readUnit : K_X1_readUnit J q_X1_readUnit (rm_ls d)) (hq_X1_readOpen : K_X1_readOpen J q_X1_readOpen (rm_ls d)) (h : f_X1_readSum_b q_X1_readSum q_X1_readProduct q_X1_readUnit q_X1_readOpen l_code l_length t_bytes t_end t_at t_start t_faultKind t_faultPlace n1 = some (o_l_code, o_l_length, o_t_at, o_t_start, o_t_faultKind, o_t_faultPlace)) : Mt J yX1_readSum cX1_readSum 5 none (rm_ls (d + 1)) [.ref (a0 0), .ref (a1 0), .int n1] (cs_X1 J.2.2.1 a0 l_code l_values l_stack l_length ++ cs_X7 J.2.2.1 a1 t_bytes t_held t_end t_at t_start t_faultKind t_faultPlace) none (cs_X1 J.2.2.1 a0 o_l_code l_values l_stack o_l_length ++ cs_X7 J.2.2.1 a1 t_bytes t_held t_end o_t_at o_t_start o_t_faultKind o_t_faultPlace) := by
  refine Mt_of (own := RX1) (by decide) rfl (Nat.le_of_ble_eq_true rfl) rfl (fun Z C E => ?_)
  unfold f_X1_readSum_b at h
  show G J Z 0 0 (cs_X1 J.2.2.1 a0 l_code l_values l_stack l_length ++ cs_X7 J.2.2.1 a1 t_bytes t_held t_end t_at t_start t_faultKind t_faultPlace) 5 [(0, .ref (a0 0)), (1, .ref (a1 0)), (2, .int n1)] 0 []
  refine g_aload_n (pc := 0) C 0 rfl dX1_readSum_0 ?_
  refine g_aload_n (pc := 1) C 1 rfl dX1_readSum_1 ?_
  refine g_iload_n (pc := 2) C 2 rfl dX1_readSum_2 ?_
  obtain ⟨c15, c16, c17, c18, c19, c20, hc, h⟩ := b6_of h
  refine g_callV (pc := 3) C (w' := cs_X1 J.2.2.1 a0 c15 l_values l_stack c16 ++ cs_X7 J.2.2.1 a1 t_bytes t_held t_end c17 c18 c19 c20) (As := [.ref (a1 0), .int n1]) (st := []) (ci := 1) (q0 := 0) rfl rfl (hq_X1_readProduct a0 a1 _ _ _ _ _ _ _ _ _ _ _ _ _ _ _ _ _ _ hc) Sub.same kw_763 kw_765 kw_6 kw_93 hy_X1_readProduct kw_766 rfl (rm_ls_f d) (rm_ls_l d (Nat.le_of_ble_eq_true rfl)) (Nat.le_of_ble_eq_true rfl) (Nat.le_of_ble_eq_true rfl) (Nat.le_of_ble_eq_true rfl) dX1_readSum_3 ?_
  refine g_iconst (pc := 6) C dX1_readSum_6 ci_0 ?_
  refine g_istore_n (pc := 7) C [(3, .int 0), (0, .ref (a0 0)), (1, .ref (a1 0)), (2, .int n1)] dX1_readSum_7 rfl (by decide) rfl ?_
  refine g_lv [1, 2, 3, 0] rfl ?_
  exact j_X1_readSum_8 C E hq_X1_readSum hq_X1_readProduct hq_X1_readUnit hq_X1_readOpen   FU 0 c15 c16 c17 c18 c19 c20 h

set_option maxRecDepth 100000 in
set_option maxHeartbeats 4000000 in
theorem j_X1_readProduct_58 {J : Jt} {Z : Zt} {d : Nat} {q_X1_readSum : (Nat → Int32) → Int32 → (Nat → Int32) → Int32 → Int32 → Int32 → Int32 → Int32 → Int32 → Option ((Nat → Int32) × Int32 × Int32 × Int32 × Int32 × Int32)} {q_X1_readProduct : (Nat → Int32) → Int32 → (Nat → Int32) → Int32 → Int32 → Int32 → Int32 → Int32 → Int32 → Option ((Nat → Int32) × Int32 × Int32 × Int32 × Int32 × Int32)} {q_X1_readUnit : (Nat → Int32) → Int32 → (Nat → Int32) → Int32 → Int32 → Int32 → Int32 → Int32 → Int32 → Option ((Nat → Int32) × Int32 × Int32 × Int32 × Int32 × Int32)} {q_X1_readOpen : (Nat → Int32) → Int32 → (Nat → Int32) → Int32 → Int32 → Int32 → Int32 → Int32 → Int32 → Int32 → Option ((Nat → Int32) × Int32 × Int32 × Int32 × Int32 × Int32)} {a0 : Nat → Nat} {a1 : Nat → Nat} {l_values : Nat → Int32} {l_stack : Nat → Int32} {t_bytes : Nat → Int32} {t_held : Int32} {t_end : Int32} {n1 : Int32} {o_l_code : Nat → Int32} {o_l_length : Int32} {o_t_at : Int32} {o_t_start : Int32} {o_t_faultKind : Int32} {o_t_faultPlace : Int32} {k8 : Int32 → (Nat → Int32) → Int32 → Int32 → Int32 → Int32 → Int32 → Option ((Nat → Int32) × Int32 × Int32 × Int32 × Int32 × Int32)} (C : Cx J Z cX1_readProduct 5 RX1 none (rm_ls (d + 1))) (E : Ez J Z 0 0 none (cs_X1 J.2.2.1 a0 o_l_code l_values l_stack o_l_length ++ cs_X7 J.2.2.1 a1 t_bytes t_held t_end o_t_at o_t_start o_t_faultKind o_t_faultPlace)) (hq_X1_readSum : K_X1_readSum J q_X1_readSum (rm_ls d)) (hq_X1_readProduct : K_X1_readProduct J q_X1_readProduct (rm_ls d)) (hq_X1_readUnit : K_X1_readUnit J q_X1_readUnit (rm_ls d)) (hq_X1_readOpen : K_X1_readOpen J q_X1_readOpen (rm_ls d)) (hk8 : ∀ (x3 : Int32) (l_code : Nat → Int32) (l_length : Int32) (t_at : Int32) (t_start : Int32) (t_faultKind : Int32) (t_faultPlace : Int32), k8 x3 l_code l_length t_at t_start t_faultKind t_faultPlace = some (o_l_code, o_l_length, o_t_at, o_t_start, o_t_faultKind, o_t_faultPlace) → G J Z 0 0 (cs_X1 J.2.2.1 a0 l_code l_values l_stack l_length ++ cs_X7 J.2.2.1 a1 t_bytes t_held t_end t_at t_start t_faultKind t_faultPlace) 5 [(0, .ref (a0 0)), (1, .ref (a1 0)), (2, .int n1), (3, .int x3)] 8 []) : ∀ (x3 : Int32) (y0 : Int32) (l_code : Nat → Int32) (l_length : Int32) (t_at : Int32) (t_start : Int32) (t_faultKind : Int32) (t_faultPlace : Int32), f_X1_readProduct_58 q_X1_readSum q_X1_readProduct q_X1_readUnit q_X1_readOpen t_bytes t_end n1 k8 x3 y0 l_code l_length t_at t_start t_faultKind t_faultPlace = some (o_l_code, o_l_length, o_t_at, o_t_start, o_t_faultKind, o_t_faultPlace) → G J Z 0 0 (cs_X1 J.2.2.1 a0 l_code l_values l_stack l_length ++ cs_X7 J.2.2.1 a1 t_bytes t_held t_end t_at t_start t_faultKind t_faultPlace) 5 [(0, .ref (a0 0)), (1, .ref (a1 0)), (2, .int n1), (3, .int x3)] 58 [.int y0] := by
  intro x3 y0 l_code l_length t_at t_start t_faultKind t_faultPlace h
  unfold f_X1_readProduct_58 at h
  refine g_istore (pc := 58) C [(4, .int y0), (0, .ref (a0 0)), (1, .ref (a1 0)), (2, .int n1), (3, .int x3)] dX1_readProduct_58 (by decide) rfl ?_
  refine g_iload (pc := 60) C 0 rfl dX1_readProduct_60 ?_
  refine g_if_ne (pc := 62) C (tgt := 66) dX1_readProduct_62 rfl h (fun h => ?_) (fun h => ?_)
  · refine g_aload_n (pc := 66) C 1 rfl dX1_readProduct_66 ?_
    refine g_aload_n (pc := 67) C 2 rfl dX1_readProduct_67 ?_
    refine g_iload_n (pc := 68) C 3 rfl dX1_readProduct_68 ?_
    obtain ⟨c1, c2, c3, c4, c5, c6, hc, h⟩ := b6_of h
    refine g_callV (pc := 69) C (w' := cs_X1 J.2.2.1 a0 c1 l_values l_stack c2 ++ cs_X7 J.2.2.1 a1 t_bytes t_held t_end c3 c4 c5 c6) (As := [.ref (a1 0), .int n1]) (st := []) (ci := 1) (q0 := 0) rfl rfl (hq_X1_readUnit a0 a1 _ _ _ _ _ _ _ _ _ _ _ _ _ _ _ _ _ _ hc) Sub.same kw_767 kw_769 kw_7 kw_93 hy_X1_readUnit kw_770 rfl (rm_ls_f d) (rm_ls_l d (Nat.le_of_ble_eq_true rfl)) (Nat.le_of_ble_eq_true rfl) (Nat.le_of_ble_eq_true rfl) (Nat.le_of_ble_eq_true rfl) dX1_readProduct_69 ?_
    refine g_aload_n (pc := 72) C 1 rfl dX1_readProduct_72 ?_
    refine g_iload (pc := 73) C 0 rfl dX1_readProduct_73 ?_
    obtain ⟨c7, c8, hc, h⟩ := b2_of h
    refine g_callV (pc := 75) C (w' := cs_X1 J.2.2.1 a0 c7 l_values l_stack c8 ++ cs_X7 J.2.2.1 a1 t_bytes t_held t_end c3 c4 c5 c6) (As := [.int y0]) (st := []) (ci := 1) (q0 := 0) rfl rfl (t_X1_add (a0 := a0) hc) (Sub.gen [0, 1, 2, 3] [4, 5] [2, 3, 4, 5, 0, 1] rfl (by decide) rfl (by decide) (by decide) rfl (by decide)) kw_331 kw_332 kw_333 kw_93 hy_X1_add kw_334 rfl (rm_ls_f0 d (Nat.le_of_ble_eq_true rfl)) (rm_ls_l0 d (Nat.le_of_ble_eq_true rfl)) (Nat.le_of_ble_eq_true rfl) (Nat.le_of_ble_eq_true rfl) (Nat.le_of_ble_eq_true rfl) dX1_readProduct_75 ?_
    refine g_iinc (pc := 78) C (j := 4) [(3, .int (x3 + 1)), (4, .int y0), (0, .ref (a0 0)), (1, .ref (a1 0)), (2, .int n1)] dX1_readProduct_78 rfl (ii_1 _) (by decide) rfl ?_
    refine g_goto (pc := 81) C (tgt := 8) dX1_readProduct_81 rfl ?_
    refine g_lv [2, 3, 4, 0] rfl ?_
    exact hk8 (x3 + 1) c7 c8 c3 c4 c5 c6 h
  · cases h
    exact g_vret C E dX1_readProduct_65
set_option maxRecDepth 100000 in
set_option maxHeartbeats 4000000 in
theorem j_X1_readProduct_8 {J : Jt} {Z : Zt} {d : Nat} {q_X1_readSum : (Nat → Int32) → Int32 → (Nat → Int32) → Int32 → Int32 → Int32 → Int32 → Int32 → Int32 → Option ((Nat → Int32) × Int32 × Int32 × Int32 × Int32 × Int32)} {q_X1_readProduct : (Nat → Int32) → Int32 → (Nat → Int32) → Int32 → Int32 → Int32 → Int32 → Int32 → Int32 → Option ((Nat → Int32) × Int32 × Int32 × Int32 × Int32 × Int32)} {q_X1_readUnit : (Nat → Int32) → Int32 → (Nat → Int32) → Int32 → Int32 → Int32 → Int32 → Int32 → Int32 → Option ((Nat → Int32) × Int32 × Int32 × Int32 × Int32 × Int32)} {q_X1_readOpen : (Nat → Int32) → Int32 → (Nat → Int32) → Int32 → Int32 → Int32 → Int32 → Int32 → Int32 → Int32 → Option ((Nat → Int32) × Int32 × Int32 × Int32 × Int32 × Int32)} {a0 : Nat → Nat} {a1 : Nat → Nat} {l_values : Nat → Int32} {l_stack : Nat → Int32} {t_bytes : Nat → Int32} {t_held : Int32} {t_end : Int32} {n1 : Int32} {o_l_code : Nat → Int32} {o_l_length : Int32} {o_t_at : Int32} {o_t_start : Int32} {o_t_faultKind : Int32} {o_t_faultPlace : Int32} (C : Cx J Z cX1_readProduct 5 RX1 none (rm_ls (d + 1))) (E : Ez J Z 0 0 none (cs_X1 J.2.2.1 a0 o_l_code l_values l_stack o_l_length ++ cs_X7 J.2.2.1 a1 t_bytes t_held t_end o_t_at o_t_start o_t_faultKind o_t_faultPlace)) (hq_X1_readSum : K_X1_readSum J q_X1_readSum (rm_ls d)) (hq_X1_readProduct : K_X1_readProduct J q_X1_readProduct (rm_ls d)) (hq_X1_readUnit : K_X1_readUnit J q_X1_readUnit (rm_ls d)) (hq_X1_readOpen : K_X1_readOpen J q_X1_readOpen (rm_ls d)) : ∀ (n : Nat) (x3 : Int32) (l_code : Nat → Int32) (l_length : Int32) (t_at : Int32) (t_start : Int32) (t_faultKind : Int32) (t_faultPlace : Int32), f_X1_readProduct_8 q_X1_readSum q_X1_readProduct q_X1_readUnit q_X1_readOpen t_bytes t_end n1 n x3 l_code l_length t_at t_start t_faultKind t_faultPlace = some (o_l_code, o_l_length, o_t_at, o_t_start, o_t_faultKind, o_t_faultPlace) → G J Z 0 0 (cs_X1 J.2.2.1 a0 l_code l_values l_stack l_length ++ cs_X7 J.2.2.1 a1 t_bytes t_held t_end t_at t_start t_faultKind t_faultPlace) 5 [(0, .ref (a0 0)), (1, .ref (a1 0)), (2, .int n1), (3, .int x3)] 8 [] := by
  intro n
  induction n with
  | zero =>
    intro x3 l_code l_length t_at t_start t_faultKind t_faultPlace h
    rw [f_X1_readProduct_8] at h
    cases h
  | succ n ih =>
    intro x3 l_code l_length t_at t_start t_faultKind t_faultPlace h
    rw [f_X1_readProduct_8] at h
    refine g_iload_n (pc := 8) C 3 rfl dX1_readProduct_8 ?_
    refine g_sipush (pc := 9) C dX1_readProduct_9 cs_150 ?_
    refine g_icmp_ge (pc := 12) C (tgt := 84) dX1_readProduct_12 rfl h (fun h => ?_) (fun h => ?_)
    · cases h
      exact g_vret C E dX1_readProduct_84
    · refine g_aload_n (pc := 15) C 1 rfl dX1_readProduct_15 ?_
      refine g_bipush (pc := 16) C dX1_readProduct_16 cb_42 ?_
      obtain ⟨v9, c10, c11, hc, h⟩ := b3_of h
      refine g_callV (pc := 18) C (w' := cs_X1 J.2.2.1 a0 l_code l_values l_stack l_length ++ cs_X7 J.2.2.1 a1 t_bytes t_held t_end c10 c11 t_faultKind t_faultPlace) (As := [.int 42]) (st := []) (ci := 7) (q0 := 4) rfl rfl (t_X7_takes (a0 := a1) hc) (Sub.gen [4, 5] [0, 1, 2, 3] [0, 1, 2, 3, 4, 5] rfl (by decide) rfl (by decide) (by decide) rfl (by decide)) kw_773 kw_774 kw_775 kw_87 hy_X7_takes kw_776 rfl (rm_ls_f0 d (Nat.le_of_ble_eq_true rfl)) (rm_ls_l0 d (Nat.le_of_ble_eq_true rfl)) (Nat.le_of_ble_eq_true rfl) (Nat.le_of_ble_eq_true rfl) (Nat.le_of_ble_eq_true rfl) dX1_readProduct_18 ?_
      refine g_if_eq (pc := 21) C (tgt := 29) dX1_readProduct_21 rfl h (fun h => ?_) (fun h => ?_)
      · refine g_aload_n (pc := 29) C 1 rfl dX1_readProduct_29 ?_
        refine g_bipush (pc := 30) C dX1_readProduct_30 cb_47 ?_
        obtain ⟨v12, c13, c14, hc, h⟩ := b3_of h
        refine g_callV (pc := 32) C (w' := cs_X1 J.2.2.1 a0 l_code l_values l_stack l_length ++ cs_X7 J.2.2.1 a1 t_bytes t_held t_end c13 c14 t_faultKind t_faultPlace) (As := [.int 47]) (st := []) (ci := 7) (q0 := 4) rfl rfl (t_X7_takes (a0 := a1) hc) (Sub.gen [4, 5] [0, 1, 2, 3] [0, 1, 2, 3, 4, 5] rfl (by decide) rfl (by decide) (by decide) rfl (by decide)) kw_773 kw_774 kw_775 kw_87 hy_X7_takes kw_776 rfl (rm_ls_f0 d (Nat.le_of_ble_eq_true rfl)) (rm_ls_l0 d (Nat.le_of_ble_eq_true rfl)) (Nat.le_of_ble_eq_true rfl) (Nat.le_of_ble_eq_true rfl) (Nat.le_of_ble_eq_true rfl) dX1_readProduct_32 ?_
        refine g_if_eq (pc := 35) C (tgt := 43) dX1_readProduct_35 rfl h (fun h => ?_) (fun h => ?_)
        · refine g_aload_n (pc := 43) C 1 rfl dX1_readProduct_43 ?_
          refine g_bipush (pc := 44) C dX1_readProduct_44 cb_37 ?_
          obtain ⟨v15, c16, c17, hc, h⟩ := b3_of h
          refine g_callV (pc := 46) C (w' := cs_X1 J.2.2.1 a0 l_code l_values l_stack l_length ++ cs_X7 J.2.2.1 a1 t_bytes t_held t_end c16 c17 t_faultKind t_faultPlace) (As := [.int 37]) (st := []) (ci := 7) (q0 := 4) rfl rfl (t_X7_takes (a0 := a1) hc) (Sub.gen [4, 5] [0, 1, 2, 3] [0, 1, 2, 3, 4, 5] rfl (by decide) rfl (by decide) (by decide) rfl (by decide)) kw_773 kw_774 kw_775 kw_87 hy_X7_takes kw_776 rfl (rm_ls_f0 d (Nat.le_of_ble_eq_true rfl)) (rm_ls_l0 d (Nat.le_of_ble_eq_true rfl)) (Nat.le_of_ble_eq_true rfl) (Nat.le_of_ble_eq_true rfl) (Nat.le_of_ble_eq_true rfl) dX1_readProduct_46 ?_
          refine g_if_eq (pc := 49) C (tgt := 57) dX1_readProduct_49 rfl h (fun h => ?_) (fun h => ?_)
          · refine g_iconst (pc := 57) C dX1_readProduct_57 ci_0 ?_
            exact j_X1_readProduct_58 C E hq_X1_readSum hq_X1_readProduct hq_X1_readUnit hq_X1_readOpen  ih x3 0 l_code l_length c16 c17 t_faultKind t_faultPlace h
          · refine g_bipush (pc := 52) C dX1_readProduct_52 cb_m12 ?_
            refine g_goto (pc := 54) C (tgt := 58) dX1_readProduct_54 rfl ?_
            exact j_X1_readProduct_58 C E hq_X1_readSum hq_X1_readProduct hq_X1_readUnit hq_X1_readOpen  ih x3 (-12) l_code l_length c16 c17 t_faultKind t_faultPlace h
        · refine g_bipush (pc := 38) C dX1_readProduct_38 cb_m11 ?_
          refine g_goto (pc := 40) C (tgt := 58) dX1_readProduct_40 rfl ?_
          exact j_X1_readProduct_58 C E hq_X1_readSum hq_X1_readProduct hq_X1_readUnit hq_X1_readOpen  ih x3 (-11) l_code l_length c13 c14 t_faultKind t_faultPlace h
      · refine g_bipush (pc := 24) C dX1_readProduct_24 cb_m10 ?_
        refine g_goto (pc := 26) C (tgt := 58) dX1_readProduct_26 rfl ?_
        exact j_X1_readProduct_58 C E hq_X1_readSum hq_X1_readProduct hq_X1_readUnit hq_X1_readOpen  ih x3 (-10) l_code l_length c10 c11 t_faultKind t_faultPlace h
set_option maxRecDepth 100000 in
set_option maxHeartbeats 4000000 in
theorem t_X1_readProduct_b {J : Jt} {d : Nat} {q_X1_readSum : (Nat → Int32) → Int32 → (Nat → Int32) → Int32 → Int32 → Int32 → Int32 → Int32 → Int32 → Option ((Nat → Int32) × Int32 × Int32 × Int32 × Int32 × Int32)} {q_X1_readProduct : (Nat → Int32) → Int32 → (Nat → Int32) → Int32 → Int32 → Int32 → Int32 → Int32 → Int32 → Option ((Nat → Int32) × Int32 × Int32 × Int32 × Int32 × Int32)} {q_X1_readUnit : (Nat → Int32) → Int32 → (Nat → Int32) → Int32 → Int32 → Int32 → Int32 → Int32 → Int32 → Option ((Nat → Int32) × Int32 × Int32 × Int32 × Int32 × Int32)} {q_X1_readOpen : (Nat → Int32) → Int32 → (Nat → Int32) → Int32 → Int32 → Int32 → Int32 → Int32 → Int32 → Int32 → Option ((Nat → Int32) × Int32 × Int32 × Int32 × Int32 × Int32)} {a0 : Nat → Nat} {a1 : Nat → Nat} {l_code : Nat → Int32} {l_values : Nat → Int32} {l_stack : Nat → Int32} {l_length : Int32} {t_bytes : Nat → Int32} {t_held : Int32} {t_end : Int32} {t_at : Int32} {t_start : Int32} {t_faultKind : Int32} {t_faultPlace : Int32} {n1 : Int32} {o_l_code : Nat → Int32} {o_l_length : Int32} {o_t_at : Int32} {o_t_start : Int32} {o_t_faultKind : Int32} {o_t_faultPlace : Int32} (hq_X1_readSum : K_X1_readSum J q_X1_readSum (rm_ls d)) (hq_X1_readProduct : K_X1_readProduct J q_X1_readProduct (rm_ls d)) (hq_X1_readUnit : K_X1_readUnit J q_X1_readUnit (rm_ls d)) (hq_X1_readOpen : K_X1_readOpen J q_X1_readOpen (rm_ls d)) (h : f_X1_readProduct_b q_X1_readSum q_X1_readProduct q_X1_readUnit q_X1_readOpen l_code l_length t_bytes t_end t_at t_start t_faultKind t_faultPlace n1 = some (o_l_code, o_l_length, o_t_at, o_t_start, o_t_faultKind, o_t_faultPlace)) : Mt J yX1_readProduct cX1_readProduct 5 none (rm_ls (d + 1)) [.ref (a0 0), .ref (a1 0), .int n1] (cs_X1 J.2.2.1 a0 l_code l_values l_stack l_length ++ cs_X7 J.2.2.1 a1 t_bytes t_held t_end t_at t_start t_faultKind t_faultPlace) none (cs_X1 J.2.2.1 a0 o_l_code l_values l_stack o_l_length ++ cs_X7 J.2.2.1 a1 t_bytes t_held t_end o_t_at o_t_start o_t_faultKind o_t_faultPlace) := by
  refine Mt_of (own := RX1) (by decide) rfl (Nat.le_of_ble_eq_true rfl) rfl (fun Z C E => ?_)
  unfold f_X1_readProduct_b at h
  show G J Z 0 0 (cs_X1 J.2.2.1 a0 l_code l_values l_stack l_length ++ cs_X7 J.2.2.1 a1 t_bytes t_held t_end t_at t_start t_faultKind t_faultPlace) 5 [(0, .ref (a0 0)), (1, .ref (a1 0)), (2, .int n1)] 0 []
  refine g_aload_n (pc := 0) C 0 rfl dX1_readProduct_0 ?_
  refine g_aload_n (pc := 1) C 1 rfl dX1_readProduct_1 ?_
  refine g_iload_n (pc := 2) C 2 rfl dX1_readProduct_2 ?_
  obtain ⟨c18, c19, c20, c21, c22, c23, hc, h⟩ := b6_of h
  refine g_callV (pc := 3) C (w' := cs_X1 J.2.2.1 a0 c18 l_values l_stack c19 ++ cs_X7 J.2.2.1 a1 t_bytes t_held t_end c20 c21 c22 c23) (As := [.ref (a1 0), .int n1]) (st := []) (ci := 1) (q0 := 0) rfl rfl (hq_X1_readUnit a0 a1 _ _ _ _ _ _ _ _ _ _ _ _ _ _ _ _ _ _ hc) Sub.same kw_767 kw_769 kw_7 kw_93 hy_X1_readUnit kw_770 rfl (rm_ls_f d) (rm_ls_l d (Nat.le_of_ble_eq_true rfl)) (Nat.le_of_ble_eq_true rfl) (Nat.le_of_ble_eq_true rfl) (Nat.le_of_ble_eq_true rfl) dX1_readProduct_3 ?_
  refine g_iconst (pc := 6) C dX1_readProduct_6 ci_0 ?_
  refine g_istore_n (pc := 7) C [(3, .int 0), (0, .ref (a0 0)), (1, .ref (a1 0)), (2, .int n1)] dX1_readProduct_7 rfl (by decide) rfl ?_
  refine g_lv [1, 2, 3, 0] rfl ?_
  exact j_X1_readProduct_8 C E hq_X1_readSum hq_X1_readProduct hq_X1_readUnit hq_X1_readOpen   FU 0 c18 c19 c20 c21 c22 c23 h

set_option maxRecDepth 100000 in
set_option maxHeartbeats 4000000 in
theorem t_X1_readUnit_b {J : Jt} {d : Nat} {q_X1_readSum : (Nat → Int32) → Int32 → (Nat → Int32) → Int32 → Int32 → Int32 → Int32 → Int32 → Int32 → Option ((Nat → Int32) × Int32 × Int32 × Int32 × Int32 × Int32)} {q_X1_readProduct : (Nat → Int32) → Int32 → (Nat → Int32) → Int32 → Int32 → Int32 → Int32 → Int32 → Int32 → Option ((Nat → Int32) × Int32 × Int32 × Int32 × Int32 × Int32)} {q_X1_readUnit : (Nat → Int32) → Int32 → (Nat → Int32) → Int32 → Int32 → Int32 → Int32 → Int32 → Int32 → Option ((Nat → Int32) × Int32 × Int32 × Int32 × Int32 × Int32)} {q_X1_readOpen : (Nat → Int32) → Int32 → (Nat → Int32) → Int32 → Int32 → Int32 → Int32 → Int32 → Int32 → Int32 → Option ((Nat → Int32) × Int32 × Int32 × Int32 × Int32 × Int32)} {a0 : Nat → Nat} {a1 : Nat → Nat} {l_code : Nat → Int32} {l_values : Nat → Int32} {l_stack : Nat → Int32} {l_length : Int32} {t_bytes : Nat → Int32} {t_held : Int32} {t_end : Int32} {t_at : Int32} {t_start : Int32} {t_faultKind : Int32} {t_faultPlace : Int32} {n1 : Int32} {o_l_code : Nat → Int32} {o_l_length : Int32} {o_t_at : Int32} {o_t_start : Int32} {o_t_faultKind : Int32} {o_t_faultPlace : Int32} (hq_X1_readSum : K_X1_readSum J q_X1_readSum (rm_ls d)) (hq_X1_readProduct : K_X1_readProduct J q_X1_readProduct (rm_ls d)) (hq_X1_readUnit : K_X1_readUnit J q_X1_readUnit (rm_ls d)) (hq_X1_readOpen : K_X1_readOpen J q_X1_readOpen (rm_ls d)) (h : f_X1_readUnit_b q_X1_readSum q_X1_readProduct q_X1_readUnit q_X1_readOpen l_code l_length t_bytes t_end t_at t_start t_faultKind t_faultPlace n1 = some (o_l_code, o_l_length, o_t_at, o_t_start, o_t_faultKind, o_t_faultPlace)) : Mt J yX1_readUnit cX1_readUnit 3 none (rm_ls (d + 1)) [.ref (a0 0), .ref (a1 0), .int n1] (cs_X1 J.2.2.1 a0 l_code l_values l_stack l_length ++ cs_X7 J.2.2.1 a1 t_bytes t_held t_end t_at t_start t_faultKind t_faultPlace) none (cs_X1 J.2.2.1 a0 o_l_code l_values l_stack o_l_length ++ cs_X7 J.2.2.1 a1 t_bytes t_held t_end o_t_at o_t_start o_t_faultKind o_t_faultPlace) := by
  refine Mt_of (own := RX1) (by decide) rfl (Nat.le_of_ble_eq_true rfl) rfl (fun Z C E => ?_)
  unfold f_X1_readUnit_b at h
  show G J Z 0 0 (cs_X1 J.2.2.1 a0 l_code l_values l_stack l_length ++ cs_X7 J.2.2.1 a1 t_bytes t_held t_end t_at t_start t_faultKind t_faultPlace) 3 [(0, .ref (a0 0)), (1, .ref (a1 0)), (2, .int n1)] 0 []
  refine g_aload_n (pc := 0) C 1 rfl dX1_readUnit_0 ?_
  obtain ⟨v1, c2, c3, hc, h⟩ := b3_of h
  refine g_callV (pc := 1) C (w' := cs_X1 J.2.2.1 a0 l_code l_values l_stack l_length ++ cs_X7 J.2.2.1 a1 t_bytes t_held t_end c2 c3 t_faultKind t_faultPlace) (As := []) (st := []) (ci := 7) (q0 := 4) rfl rfl (t_X7_isAtNumber (a0 := a1) hc) (Sub.gen [4, 5] [0, 1, 2, 3] [0, 1, 2, 3, 4, 5] rfl (by decide) rfl (by decide) (by decide) rfl (by decide)) kw_771 kw_714 kw_715 kw_87 hy_X7_isAtNumber kw_716 rfl (rm_ls_f0 d (Nat.le_of_ble_eq_true rfl)) (rm_ls_l0 d (Nat.le_of_ble_eq_true rfl)) (Nat.le_of_ble_eq_true rfl) (Nat.le_of_ble_eq_true rfl) (Nat.le_of_ble_eq_true rfl) dX1_readUnit_1 ?_
  refine g_if_eq (pc := 4) C (tgt := 22) dX1_readUnit_4 rfl h (fun h => ?_) (fun h => ?_)
  · refine g_aload_n (pc := 22) C 1 rfl dX1_readUnit_22 ?_
    refine g_bipush (pc := 23) C dX1_readUnit_23 cb_40 ?_
    obtain ⟨v4, c5, c6, hc, h⟩ := b3_of h
    refine g_callV (pc := 25) C (w' := cs_X1 J.2.2.1 a0 l_code l_values l_stack l_length ++ cs_X7 J.2.2.1 a1 t_bytes t_held t_end c5 c6 t_faultKind t_faultPlace) (As := [.int 40]) (st := []) (ci := 7) (q0 := 4) rfl rfl (t_X7_takes (a0 := a1) hc) (Sub.gen [4, 5] [0, 1, 2, 3] [0, 1, 2, 3, 4, 5] rfl (by decide) rfl (by decide) (by decide) rfl (by decide)) kw_773 kw_774 kw_775 kw_87 hy_X7_takes kw_776 rfl (rm_ls_f0 d (Nat.le_of_ble_eq_true rfl)) (rm_ls_l0 d (Nat.le_of_ble_eq_true rfl)) (Nat.le_of_ble_eq_true rfl) (Nat.le_of_ble_eq_true rfl) (Nat.le_of_ble_eq_true rfl) dX1_readUnit_25 ?_
    refine g_if_eq (pc := 28) C (tgt := 41) dX1_readUnit_28 rfl h (fun h => ?_) (fun h => ?_)
    · refine g_aload_n (pc := 41) C 1 rfl dX1_readUnit_41 ?_
      refine g_ldcS (pc := 42) C (i := 3) rfl dX1_readUnit_42 ?_
      obtain ⟨v7, c8, c9, hc, h⟩ := b3_of h
      refine g_callV (pc := 44) C (w' := cs_X1 J.2.2.1 a0 l_code l_values l_stack l_length ++ cs_X7 J.2.2.1 a1 t_bytes t_held t_end c8 c9 t_faultKind t_faultPlace) (As := [.ref (J.2.2.2.1 3)]) (st := []) (ci := 7) (q0 := 4) rfl rfl (t_X7_takes_ (a0 := a1) (by decide) hc) (Sub.gen [4, 5] [0, 1, 2, 3] [0, 1, 2, 3, 4, 5] rfl (by decide) rfl (by decide) (by decide) rfl (by decide)) kw_784 kw_633 kw_634 kw_87 hy_X7_takes_ kw_635 rfl (rm_ls_f0 d (Nat.le_of_ble_eq_true rfl)) (rm_ls_l0 d (Nat.le_of_ble_eq_true rfl)) (Nat.le_of_ble_eq_true rfl) (Nat.le_of_ble_eq_true rfl) (Nat.le_of_ble_eq_true rfl) dX1_readUnit_44 ?_
      refine g_if_eq (pc := 47) C (tgt := 61) dX1_readUnit_47 rfl h (fun h => ?_) (fun h => ?_)
      · refine g_aload_n (pc := 61) C 1 rfl dX1_readUnit_61 ?_
        refine g_ldcS (pc := 62) C (i := 4) rfl dX1_readUnit_62 ?_
        obtain ⟨v10, c11, c12, hc, h⟩ := b3_of h
        refine g_callV (pc := 64) C (w' := cs_X1 J.2.2.1 a0 l_code l_values l_stack l_length ++ cs_X7 J.2.2.1 a1 t_bytes t_held t_end c11 c12 t_faultKind t_faultPlace) (As := [.ref (J.2.2.2.1 4)]) (st := []) (ci := 7) (q0 := 4) rfl rfl (t_X7_takes_ (a0 := a1) (by decide) hc) (Sub.gen [4, 5] [0, 1, 2, 3] [0, 1, 2, 3, 4, 5] rfl (by decide) rfl (by decide) (by decide) rfl (by decide)) kw_784 kw_633 kw_634 kw_87 hy_X7_takes_ kw_635 rfl (rm_ls_f0 d (Nat.le_of_ble_eq_true rfl)) (rm_ls_l0 d (Nat.le_of_ble_eq_true rfl)) (Nat.le_of_ble_eq_true rfl) (Nat.le_of_ble_eq_true rfl) (Nat.le_of_ble_eq_true rfl) dX1_readUnit_64 ?_
        refine g_if_eq (pc := 67) C (tgt := 81) dX1_readUnit_67 rfl h (fun h => ?_) (fun h => ?_)
        · refine g_aload_n (pc := 81) C 0 rfl dX1_readUnit_81 ?_
          refine g_aload_n (pc := 82) C 1 rfl dX1_readUnit_82 ?_
          obtain ⟨c13, c14, c15, c16, c17, c18, hc, h⟩ := b6_of h
          refine g_callV (pc := 83) C (w' := cs_X1 J.2.2.1 a0 c13 l_values l_stack c14 ++ cs_X7 J.2.2.1 a1 t_bytes t_held t_end c15 c16 c17 c18) (As := [.ref (a1 0)]) (st := []) (ci := 1) (q0 := 0) rfl rfl (t_X1_readValue (a0 := a0) (a1 := a1) hc) Sub.same kw_786 kw_787 kw_788 kw_93 hy_X1_readValue kw_789 rfl (rm_ls_f0 d (Nat.le_of_ble_eq_true rfl)) (rm_ls_l0 d (Nat.le_of_ble_eq_true rfl)) (Nat.le_of_ble_eq_true rfl) (Nat.le_of_ble_eq_true rfl) (Nat.le_of_ble_eq_true rfl) dX1_readUnit_83 ?_
          cases h
          exact g_vret C E dX1_readUnit_86
        · refine g_aload_n (pc := 70) C 0 rfl dX1_readUnit_70 ?_
          refine g_aload_n (pc := 71) C 1 rfl dX1_readUnit_71 ?_
          refine g_iload_n (pc := 72) C 2 rfl dX1_readUnit_72 ?_
          refine g_bipush (pc := 73) C dX1_readUnit_73 cb_m14 ?_
          obtain ⟨c19, c20, c21, c22, c23, c24, hc, h⟩ := b6_of h
          refine g_callV (pc := 75) C (w' := cs_X1 J.2.2.1 a0 c19 l_values l_stack c20 ++ cs_X7 J.2.2.1 a1 t_bytes t_held t_end c21 c22 c23 c24) (As := [.ref (a1 0), .int n1, .int (-14)]) (st := []) (ci := 1) (q0 := 0) rfl rfl (hq_X1_readOpen a0 a1 _ _ _ _ _ _ _ _ _ _ _ _ _ _ _ _ _ _ _ hc) Sub.same kw_777 kw_779 kw_8 kw_93 hy_X1_readOpen kw_780 rfl (rm_ls_f d) (rm_ls_l d (Nat.le_of_ble_eq_true rfl)) (Nat.le_of_ble_eq_true rfl) (Nat.le_of_ble_eq_true rfl) (Nat.le_of_ble_eq_true rfl) dX1_readUnit_75 ?_
          refine g_goto (pc := 78) C (tgt := 86) dX1_readUnit_78 rfl ?_
          cases h
          exact g_vret C E dX1_readUnit_86
      · refine g_aload_n (pc := 50) C 0 rfl dX1_readUnit_50 ?_
        refine g_aload_n (pc := 51) C 1 rfl dX1_readUnit_51 ?_
        refine g_iload_n (pc := 52) C 2 rfl dX1_readUnit_52 ?_
        refine g_bipush (pc := 53) C dX1_readUnit_53 cb_m13 ?_
        obtain ⟨c25, c26, c27, c28, c29, c30, hc, h⟩ := b6_of h
        refine g_callV (pc := 55) C (w' := cs_X1 J.2.2.1 a0 c25 l_values l_stack c26 ++ cs_X7 J.2.2.1 a1 t_bytes t_held t_end c27 c28 c29 c30) (As := [.ref (a1 0), .int n1, .int (-13)]) (st := []) (ci := 1) (q0 := 0) rfl rfl (hq_X1_readOpen a0 a1 _ _ _ _ _ _ _ _ _ _ _ _ _ _ _ _ _ _ _ hc) Sub.same kw_777 kw_779 kw_8 kw_93 hy_X1_readOpen kw_780 rfl (rm_ls_f d) (rm_ls_l d (Nat.le_of_ble_eq_true rfl)) (Nat.le_of_ble_eq_true rfl) (Nat.le_of_ble_eq_true rfl) (Nat.le_of_ble_eq_true rfl) dX1_readUnit_55 ?_
        refine g_goto (pc := 58) C (tgt := 86) dX1_readUnit_58 rfl ?_
        cases h
        exact g_vret C E dX1_readUnit_86
    · refine g_aload_n (pc := 31) C 0 rfl dX1_readUnit_31 ?_
      refine g_aload_n (pc := 32) C 1 rfl dX1_readUnit_32 ?_
      refine g_iload_n (pc := 33) C 2 rfl dX1_readUnit_33 ?_
      refine g_iconst (pc := 34) C dX1_readUnit_34 ci_0 ?_
      obtain ⟨c31, c32, c33, c34, c35, c36, hc, h⟩ := b6_of h
      refine g_callV (pc := 35) C (w' := cs_X1 J.2.2.1 a0 c31 l_values l_stack c32 ++ cs_X7 J.2.2.1 a1 t_bytes t_held t_end c33 c34 c35 c36) (As := [.ref (a1 0), .int n1, .int 0]) (st := []) (ci := 1) (q0 := 0) rfl rfl (hq_X1_readOpen a0 a1 _ _ _ _ _ _ _ _ _ _ _ _ _ _ _ _ _ _ _ hc) Sub.same kw_777 kw_779 kw_8 kw_93 hy_X1_readOpen kw_780 rfl (rm_ls_f d) (rm_ls_l d (Nat.le_of_ble_eq_true rfl)) (Nat.le_of_ble_eq_true rfl) (Nat.le_of_ble_eq_true rfl) (Nat.le_of_ble_eq_true rfl) dX1_readUnit_35 ?_
      refine g_goto (pc := 38) C (tgt := 86) dX1_readUnit_38 rfl ?_
      cases h
      exact g_vret C E dX1_readUnit_86
  · refine g_aload_n (pc := 7) C 0 rfl dX1_readUnit_7 ?_
    refine g_aload_n (pc := 8) C 1 rfl dX1_readUnit_8 ?_
    refine g_iconst (pc := 9) C dX1_readUnit_9 ci_0 ?_
    refine g_sipush (pc := 10) C dX1_readUnit_10 cs_999 ?_
    obtain ⟨v37, c38, c39, c40, c41, hc, h⟩ := b5_of h
    refine g_callV (pc := 13) C (w' := cs_X1 J.2.2.1 a0 l_code l_values l_stack l_length ++ cs_X7 J.2.2.1 a1 t_bytes t_held t_end c38 c39 c40 c41) (As := [.int 0, .int 999]) (st := [.ref (a0 0)]) (ci := 7) (q0 := 4) rfl rfl (t_X7_number (a0 := a1) hc) (Sub.gen [4, 5] [0, 1, 2, 3] [0, 1, 2, 3, 4, 5] rfl (by decide) rfl (by decide) (by decide) rfl (by decide)) kw_772 kw_700 kw_701 kw_87 hy_X7_number kw_702 rfl (rm_ls_f0 d (Nat.le_of_ble_eq_true rfl)) (rm_ls_l0 d (Nat.le_of_ble_eq_true rfl)) (Nat.le_of_ble_eq_true rfl) (Nat.le_of_ble_eq_true rfl) (Nat.le_of_ble_eq_true rfl) dX1_readUnit_13 ?_
    obtain ⟨c42, c43, hc, h⟩ := b2_of h
    refine g_callV (pc := 16) C (w' := cs_X1 J.2.2.1 a0 c42 l_values l_stack c43 ++ cs_X7 J.2.2.1 a1 t_bytes t_held t_end c38 c39 c40 c41) (As := [.int v37]) (st := []) (ci := 1) (q0 := 0) rfl rfl (t_X1_add (a0 := a0) hc) (Sub.gen [0, 1, 2, 3] [4, 5] [2, 3, 4, 5, 0, 1] rfl (by decide) rfl (by decide) (by decide) rfl (by decide)) kw_331 kw_332 kw_333 kw_93 hy_X1_add kw_334 rfl (rm_ls_f0 d (Nat.le_of_ble_eq_true rfl)) (rm_ls_l0 d (Nat.le_of_ble_eq_true rfl)) (Nat.le_of_ble_eq_true rfl) (Nat.le_of_ble_eq_true rfl) (Nat.le_of_ble_eq_true rfl) dX1_readUnit_16 ?_
    refine g_goto (pc := 19) C (tgt := 86) dX1_readUnit_19 rfl ?_
    cases h
    exact g_vret C E dX1_readUnit_86

set_option maxRecDepth 100000 in
set_option maxHeartbeats 4000000 in
theorem t_X1_readOpen_b {J : Jt} {d : Nat} {q_X1_readSum : (Nat → Int32) → Int32 → (Nat → Int32) → Int32 → Int32 → Int32 → Int32 → Int32 → Int32 → Option ((Nat → Int32) × Int32 × Int32 × Int32 × Int32 × Int32)} {q_X1_readProduct : (Nat → Int32) → Int32 → (Nat → Int32) → Int32 → Int32 → Int32 → Int32 → Int32 → Int32 → Option ((Nat → Int32) × Int32 × Int32 × Int32 × Int32 × Int32)} {q_X1_readUnit : (Nat → Int32) → Int32 → (Nat → Int32) → Int32 → Int32 → Int32 → Int32 → Int32 → Int32 → Option ((Nat → Int32) × Int32 × Int32 × Int32 × Int32 × Int32)} {q_X1_readOpen : (Nat → Int32) → Int32 → (Nat → Int32) → Int32 → Int32 → Int32 → Int32 → Int32 → Int32 → Int32 → Option ((Nat → Int32) × Int32 × Int32 × Int32 × Int32 × Int32)} {a0 : Nat → Nat} {a1 : Nat → Nat} {l_code : Nat → Int32} {l_values : Nat → Int32} {l_stack : Nat → Int32} {l_length : Int32} {t_bytes : Nat → Int32} {t_held : Int32} {t_end : Int32} {t_at : Int32} {t_start : Int32} {t_faultKind : Int32} {t_faultPlace : Int32} {n1 : Int32} {n2 : Int32} {o_l_code : Nat → Int32} {o_l_length : Int32} {o_t_at : Int32} {o_t_start : Int32} {o_t_faultKind : Int32} {o_t_faultPlace : Int32} (hq_X1_readSum : K_X1_readSum J q_X1_readSum (rm_ls d)) (hq_X1_readProduct : K_X1_readProduct J q_X1_readProduct (rm_ls d)) (hq_X1_readUnit : K_X1_readUnit J q_X1_readUnit (rm_ls d)) (hq_X1_readOpen : K_X1_readOpen J q_X1_readOpen (rm_ls d)) (h : f_X1_readOpen_b q_X1_readSum q_X1_readProduct q_X1_readUnit q_X1_readOpen l_code l_length t_bytes t_end t_at t_start t_faultKind t_faultPlace n1 n2 = some (o_l_code, o_l_length, o_t_at, o_t_start, o_t_faultKind, o_t_faultPlace)) : Mt J yX1_readOpen cX1_readOpen 4 none (rm_ls (d + 1)) [.ref (a0 0), .ref (a1 0), .int n1, .int n2] (cs_X1 J.2.2.1 a0 l_code l_values l_stack l_length ++ cs_X7 J.2.2.1 a1 t_bytes t_held t_end t_at t_start t_faultKind t_faultPlace) none (cs_X1 J.2.2.1 a0 o_l_code l_values l_stack o_l_length ++ cs_X7 J.2.2.1 a1 t_bytes t_held t_end o_t_at o_t_start o_t_faultKind o_t_faultPlace) := by
  refine Mt_of (own := RX1) (by decide) rfl (Nat.le_of_ble_eq_true rfl) rfl (fun Z C E => ?_)
  unfold f_X1_readOpen_b at h
  show G J Z 0 0 (cs_X1 J.2.2.1 a0 l_code l_values l_stack l_length ++ cs_X7 J.2.2.1 a1 t_bytes t_held t_end t_at t_start t_faultKind t_faultPlace) 4 [(0, .ref (a0 0)), (1, .ref (a1 0)), (2, .int n1), (3, .int n2)] 0 []
  refine g_iload_n (pc := 0) C 2 rfl dX1_readOpen_0 ?_
  refine g_bipush (pc := 1) C dX1_readOpen_1 cb_6 ?_
  refine g_icmp_lt (pc := 3) C (tgt := 12) dX1_readOpen_3 rfl h (fun h => ?_) (fun h => ?_)
  · refine g_iload_n (pc := 12) C 3 rfl dX1_readOpen_12 ?_
    refine g_if_ne (pc := 13) C (tgt := 31) dX1_readOpen_13 rfl h (fun h => ?_) (fun h => ?_)
    · refine g_aload_n (pc := 31) C 1 rfl dX1_readOpen_31 ?_
      refine g_bipush (pc := 32) C dX1_readOpen_32 cb_91 ?_
      obtain ⟨c1, c2, c3, c4, hc, h⟩ := b4_of h
      refine g_callV (pc := 34) C (w' := cs_X1 J.2.2.1 a0 l_code l_values l_stack l_length ++ cs_X7 J.2.2.1 a1 t_bytes t_held t_end c1 c2 c3 c4) (As := [.int 91]) (st := []) (ci := 7) (q0 := 4) rfl rfl (t_X7_need (a0 := a1) hc) (Sub.gen [4, 5] [0, 1, 2, 3] [0, 1, 2, 3, 4, 5] rfl (by decide) rfl (by decide) (by decide) rfl (by decide)) kw_782 kw_723 kw_724 kw_87 hy_X7_need kw_725 rfl (rm_ls_f0 d (Nat.le_of_ble_eq_true rfl)) (rm_ls_l0 d (Nat.le_of_ble_eq_true rfl)) (Nat.le_of_ble_eq_true rfl) (Nat.le_of_ble_eq_true rfl) (Nat.le_of_ble_eq_true rfl) dX1_readOpen_34 ?_
      refine g_aload_n (pc := 37) C 0 rfl dX1_readOpen_37 ?_
      refine g_aload_n (pc := 38) C 1 rfl dX1_readOpen_38 ?_
      refine g_iload_n (pc := 39) C 2 rfl dX1_readOpen_39 ?_
      refine g_iconst (pc := 40) C dX1_readOpen_40 ci_1 ?_
      refine g_iadd (pc := 41) C dX1_readOpen_41 ?_
      obtain ⟨c5, c6, c7, c8, c9, c10, hc, h⟩ := b6_of h
      refine g_callV (pc := 42) C (w' := cs_X1 J.2.2.1 a0 c5 l_values l_stack c6 ++ cs_X7 J.2.2.1 a1 t_bytes t_held t_end c7 c8 c9 c10) (As := [.ref (a1 0), .int (n1 + 1)]) (st := []) (ci := 1) (q0 := 0) rfl rfl (hq_X1_readSum a0 a1 _ _ _ _ _ _ _ _ _ _ _ _ _ _ _ _ _ _ hc) Sub.same kw_759 kw_761 kw_5 kw_93 hy_X1_readSum kw_762 rfl (rm_ls_f d) (rm_ls_l d (Nat.le_of_ble_eq_true rfl)) (Nat.le_of_ble_eq_true rfl) (Nat.le_of_ble_eq_true rfl) (Nat.le_of_ble_eq_true rfl) dX1_readOpen_42 ?_
      refine g_aload_n (pc := 45) C 1 rfl dX1_readOpen_45 ?_
      refine g_bipush (pc := 46) C dX1_readOpen_46 cb_44 ?_
      obtain ⟨c11, c12, c13, c14, hc, h⟩ := b4_of h
      refine g_callV (pc := 48) C (w' := cs_X1 J.2.2.1 a0 c5 l_values l_stack c6 ++ cs_X7 J.2.2.1 a1 t_bytes t_held t_end c11 c12 c13 c14) (As := [.int 44]) (st := []) (ci := 7) (q0 := 4) rfl rfl (t_X7_need (a0 := a1) hc) (Sub.gen [4, 5] [0, 1, 2, 3] [0, 1, 2, 3, 4, 5] rfl (by decide) rfl (by decide) (by decide) rfl (by decide)) kw_782 kw_723 kw_724 kw_87 hy_X7_need kw_725 rfl (rm_ls_f0 d (Nat.le_of_ble_eq_true rfl)) (rm_ls_l0 d (Nat.le_of_ble_eq_true rfl)) (Nat.le_of_ble_eq_true rfl) (Nat.le_of_ble_eq_true rfl) (Nat.le_of_ble_eq_true rfl) dX1_readOpen_48 ?_
      refine g_aload_n (pc := 51) C 0 rfl dX1_readOpen_51 ?_
      refine g_aload_n (pc := 52) C 1 rfl dX1_readOpen_52 ?_
      refine g_iload_n (pc := 53) C 2 rfl dX1_readOpen_53 ?_
      refine g_iconst (pc := 54) C dX1_readOpen_54 ci_1 ?_
      refine g_iadd (pc := 55) C dX1_readOpen_55 ?_
      obtain ⟨c15, c16, c17, c18, c19, c20, hc, h⟩ := b6_of h
      refine g_callV (pc := 56) C (w' := cs_X1 J.2.2.1 a0 c15 l_values l_stack c16 ++ cs_X7 J.2.2.1 a1 t_bytes t_held t_end c17 c18 c19 c20) (As := [.ref (a1 0), .int (n1 + 1)]) (st := []) (ci := 1) (q0 := 0) rfl rfl (hq_X1_readSum a0 a1 _ _ _ _ _ _ _ _ _ _ _ _ _ _ _ _ _ _ hc) Sub.same kw_759 kw_761 kw_5 kw_93 hy_X1_readSum kw_762 rfl (rm_ls_f d) (rm_ls_l d (Nat.le_of_ble_eq_true rfl)) (Nat.le_of_ble_eq_true rfl) (Nat.le_of_ble_eq_true rfl) (Nat.le_of_ble_eq_true rfl) dX1_readOpen_56 ?_
      refine g_aload_n (pc := 59) C 1 rfl dX1_readOpen_59 ?_
      refine g_bipush (pc := 60) C dX1_readOpen_60 cb_93 ?_
      obtain ⟨c21, c22, c23, c24, hc, h⟩ := b4_of h
      refine g_callV (pc := 62) C (w' := cs_X1 J.2.2.1 a0 c15 l_values l_stack c16 ++ cs_X7 J.2.2.1 a1 t_bytes t_held t_end c21 c22 c23 c24) (As := [.int 93]) (st := []) (ci := 7) (q0 := 4) rfl rfl (t_X7_need (a0 := a1) hc) (Sub.gen [4, 5] [0, 1, 2, 3] [0, 1, 2, 3, 4, 5] rfl (by decide) rfl (by decide) (by decide) rfl (by decide)) kw_782 kw_723 kw_724 kw_87 hy_X7_need kw_725 rfl (rm_ls_f0 d (Nat.le_of_ble_eq_true rfl)) (rm_ls_l0 d (Nat.le_of_ble_eq_true rfl)) (Nat.le_of_ble_eq_true rfl) (Nat.le_of_ble_eq_true rfl) (Nat.le_of_ble_eq_true rfl) dX1_readOpen_62 ?_
      refine g_aload_n (pc := 65) C 0 rfl dX1_readOpen_65 ?_
      refine g_iload_n (pc := 66) C 3 rfl dX1_readOpen_66 ?_
      obtain ⟨c25, c26, hc, h⟩ := b2_of h
      refine g_callV (pc := 67) C (w' := cs_X1 J.2.2.1 a0 c25 l_values l_stack c26 ++ cs_X7 J.2.2.1 a1 t_bytes t_held t_end c21 c22 c23 c24) (As := [.int n2]) (st := []) (ci := 1) (q0 := 0) rfl rfl (t_X1_add (a0 := a0) hc) (Sub.gen [0, 1, 2, 3] [4, 5] [2, 3, 4, 5, 0, 1] rfl (by decide) rfl (by decide) (by decide) rfl (by decide)) kw_331 kw_332 kw_333 kw_93 hy_X1_add kw_334 rfl (rm_ls_f0 d (Nat.le_of_ble_eq_true rfl)) (rm_ls_l0 d (Nat.le_of_ble_eq_true rfl)) (Nat.le_of_ble_eq_true rfl) (Nat.le_of_ble_eq_true rfl) (Nat.le_of_ble_eq_true rfl) dX1_readOpen_67 ?_
      cases h
      exact g_vret C E dX1_readOpen_70
    · refine g_aload_n (pc := 16) C 0 rfl dX1_readOpen_16 ?_
      refine g_aload_n (pc := 17) C 1 rfl dX1_readOpen_17 ?_
      refine g_iload_n (pc := 18) C 2 rfl dX1_readOpen_18 ?_
      refine g_iconst (pc := 19) C dX1_readOpen_19 ci_1 ?_
      refine g_iadd (pc := 20) C dX1_readOpen_20 ?_
      obtain ⟨c27, c28, c29, c30, c31, c32, hc, h⟩ := b6_of h
      refine g_callV (pc := 21) C (w' := cs_X1 J.2.2.1 a0 c27 l_values l_stack c28 ++ cs_X7 J.2.2.1 a1 t_bytes t_held t_end c29 c30 c31 c32) (As := [.ref (a1 0), .int (n1 + 1)]) (st := []) (ci := 1) (q0 := 0) rfl rfl (hq_X1_readSum a0 a1 _ _ _ _ _ _ _ _ _ _ _ _ _ _ _ _ _ _ hc) Sub.same kw_759 kw_761 kw_5 kw_93 hy_X1_readSum kw_762 rfl (rm_ls_f d) (rm_ls_l d (Nat.le_of_ble_eq_true rfl)) (Nat.le_of_ble_eq_true rfl) (Nat.le_of_ble_eq_true rfl) (Nat.le_of_ble_eq_true rfl) dX1_readOpen_21 ?_
      refine g_aload_n (pc := 24) C 1 rfl dX1_readOpen_24 ?_
      refine g_bipush (pc := 25) C dX1_readOpen_25 cb_41 ?_
      obtain ⟨c33, c34, c35, c36, hc, h⟩ := b4_of h
      refine g_callV (pc := 27) C (w' := cs_X1 J.2.2.1 a0 c27 l_values l_stack c28 ++ cs_X7 J.2.2.1 a1 t_bytes t_held t_end c33 c34 c35 c36) (As := [.int 41]) (st := []) (ci := 7) (q0 := 4) rfl rfl (t_X7_need (a0 := a1) hc) (Sub.gen [4, 5] [0, 1, 2, 3] [0, 1, 2, 3, 4, 5] rfl (by decide) rfl (by decide) (by decide) rfl (by decide)) kw_782 kw_723 kw_724 kw_87 hy_X7_need kw_725 rfl (rm_ls_f0 d (Nat.le_of_ble_eq_true rfl)) (rm_ls_l0 d (Nat.le_of_ble_eq_true rfl)) (Nat.le_of_ble_eq_true rfl) (Nat.le_of_ble_eq_true rfl) (Nat.le_of_ble_eq_true rfl) dX1_readOpen_27 ?_
      cases h
      exact g_vret C E dX1_readOpen_30
  · refine g_aload_n (pc := 6) C 1 rfl dX1_readOpen_6 ?_
    refine g_iconst (pc := 7) C dX1_readOpen_7 ci_3 ?_
    obtain ⟨c37, c38, hc, h⟩ := b2_of h
    refine g_callV (pc := 8) C (w' := cs_X1 J.2.2.1 a0 l_code l_values l_stack l_length ++ cs_X7 J.2.2.1 a1 t_bytes t_held t_end t_at t_start c37 c38) (As := [.int 3]) (st := []) (ci := 7) (q0 := 4) rfl rfl (t_X7_blame (a0 := a1) hc) (Sub.gen [4, 5] [0, 1, 2, 3] [0, 1, 2, 3, 4, 5] rfl (by decide) rfl (by decide) (by decide) rfl (by decide)) kw_781 kw_696 kw_697 kw_87 hy_X7_blame kw_698 rfl (rm_ls_f0 d (Nat.le_of_ble_eq_true rfl)) (rm_ls_l0 d (Nat.le_of_ble_eq_true rfl)) (Nat.le_of_ble_eq_true rfl) (Nat.le_of_ble_eq_true rfl) (Nat.le_of_ble_eq_true rfl) dX1_readOpen_8 ?_
    cases h
    exact g_vret C E dX1_readOpen_11
theorem T_ls {J : Jt} : ∀ d, K_X1_readSum J (f_X1_readSum d) (rm_ls d) ∧ K_X1_readProduct J (f_X1_readProduct d) (rm_ls d) ∧ K_X1_readUnit J (f_X1_readUnit d) (rm_ls d) ∧ K_X1_readOpen J (f_X1_readOpen d) (rm_ls d) := by
  intro d
  induction d with
  | zero => exact ⟨(fun _ _ _ _ _ _ _ _ _ _ _ _ _ _ _ _ _ _ _ _ h => nomatch (show none = some _ from h)), (fun _ _ _ _ _ _ _ _ _ _ _ _ _ _ _ _ _ _ _ _ h => nomatch (show none = some _ from h)), (fun _ _ _ _ _ _ _ _ _ _ _ _ _ _ _ _ _ _ _ _ h => nomatch (show none = some _ from h)), (fun _ _ _ _ _ _ _ _ _ _ _ _ _ _ _ _ _ _ _ _ _ h => nomatch (show none = some _ from h))⟩
  | succ d ih => exact ⟨(fun _ _ _ _ _ _ _ _ _ _ _ _ _ _ _ _ _ _ _ _ h => t_X1_readSum_b ih.1 ih.2.1 ih.2.2.1 ih.2.2.2 h), (fun _ _ _ _ _ _ _ _ _ _ _ _ _ _ _ _ _ _ _ _ h => t_X1_readProduct_b ih.1 ih.2.1 ih.2.2.1 ih.2.2.2 h), (fun _ _ _ _ _ _ _ _ _ _ _ _ _ _ _ _ _ _ _ _ h => t_X1_readUnit_b ih.1 ih.2.1 ih.2.2.1 ih.2.2.2 h), (fun _ _ _ _ _ _ _ _ _ _ _ _ _ _ _ _ _ _ _ _ _ h => t_X1_readOpen_b ih.1 ih.2.1 ih.2.2.1 ih.2.2.2 h)⟩
theorem t_X1_readSum {J : Jt} (d : Nat) : K_X1_readSum J (f_X1_readSum d) (rm_ls d) := (T_ls d).1
theorem t_X1_readProduct {J : Jt} (d : Nat) : K_X1_readProduct J (f_X1_readProduct d) (rm_ls d) := (T_ls d).2.1
theorem t_X1_readUnit {J : Jt} (d : Nat) : K_X1_readUnit J (f_X1_readUnit d) (rm_ls d) := (T_ls d).2.2.1
theorem t_X1_readOpen {J : Jt} (d : Nat) : K_X1_readOpen J (f_X1_readOpen d) (rm_ls d) := (T_ls d).2.2.2






noncomputable def f_X7_needEnd (t_bytes : Nat → Int32) (t_end : Int32) (t_at : Int32) (t_start : Int32) (t_faultKind : Int32) (t_faultPlace : Int32) : Option (Int32 × Int32 × Int32 × Int32) := b3 (f_X7_isAtEnd t_bytes t_end t_at t_start t_faultKind) (fun v1 c2 c3 => if v1 = 0 then b2 (f_X7_blame c3 t_faultKind t_faultPlace 1) (fun c4 c5 => some (c2, c3, c4, c5)) else some (c2, c3, t_faultKind, t_faultPlace))
def rm_X7_needEnd : Room := { frames := 2, cells := 0, slots := 0, locals := 40 }
set_option maxRecDepth 100000 in
set_option maxHeartbeats 4000000 in
theorem t_X7_needEnd {J : Jt} {a0 : Nat → Nat} {t_bytes : Nat → Int32} {t_held : Int32} {t_end : Int32} {t_at : Int32} {t_start : Int32} {t_faultKind : Int32} {t_faultPlace : Int32} {o_t_at : Int32} {o_t_start : Int32} {o_t_faultKind : Int32} {o_t_faultPlace : Int32} (h : f_X7_needEnd t_bytes t_end t_at t_start t_faultKind t_faultPlace = some (o_t_at, o_t_start, o_t_faultKind, o_t_faultPlace)) : Mt J yX7_needEnd cX7_needEnd 1 none rm_X7_needEnd [.ref (a0 0)] (cs_X7 J.2.2.1 a0 t_bytes t_held t_end t_at t_start t_faultKind t_faultPlace) none (cs_X7 J.2.2.1 a0 t_bytes t_held t_end o_t_at o_t_start o_t_faultKind o_t_faultPlace) := by
  refine Mt_of (own := RX7) (by decide) rfl (Nat.le_of_ble_eq_true rfl) rfl (fun Z C E => ?_)
  unfold f_X7_needEnd at h
  show G J Z 0 0 (cs_X7 J.2.2.1 a0 t_bytes t_held t_end t_at t_start t_faultKind t_faultPlace) 1 [(0, .ref (a0 0))] 0 []
  refine g_aload_n (pc := 0) C 0 rfl dX7_needEnd_0 ?_
  obtain ⟨v1, c2, c3, hc, h⟩ := b3_of h
  refine g_callV (pc := 1) C (w' := cs_X7 J.2.2.1 a0 t_bytes t_held t_end c2 c3 t_faultKind t_faultPlace) (As := []) (st := []) (ci := 7) (q0 := 0) rfl rfl (t_X7_isAtEnd (a0 := a0) hc) Sub.same kw_801 kw_620 kw_621 kw_87 hy_X7_isAtEnd kw_622 rfl (Nat.le_of_ble_eq_true rfl) (Nat.le_of_ble_eq_true rfl) (Nat.le_of_ble_eq_true rfl) (Nat.le_of_ble_eq_true rfl) (Nat.le_of_ble_eq_true rfl) dX7_needEnd_1 ?_
  refine g_if_ne (pc := 4) C (tgt := 12) dX7_needEnd_4 rfl h (fun h => ?_) (fun h => ?_)
  · cases h
    exact g_vret C E dX7_needEnd_12
  · refine g_aload_n (pc := 7) C 0 rfl dX7_needEnd_7 ?_
    refine g_iconst (pc := 8) C dX7_needEnd_8 ci_1 ?_
    obtain ⟨c4, c5, hc, h⟩ := b2_of h
    refine g_callV (pc := 9) C (w' := cs_X7 J.2.2.1 a0 t_bytes t_held t_end c2 c3 c4 c5) (As := [.int 1]) (st := []) (ci := 7) (q0 := 0) rfl rfl (t_X7_blame (a0 := a0) hc) Sub.same kw_706 kw_696 kw_697 kw_87 hy_X7_blame kw_698 rfl (Nat.le_of_ble_eq_true rfl) (Nat.le_of_ble_eq_true rfl) (Nat.le_of_ble_eq_true rfl) (Nat.le_of_ble_eq_true rfl) (Nat.le_of_ble_eq_true rfl) dX7_needEnd_9 ?_
    cases h
    exact g_vret C E dX7_needEnd_12
noncomputable def f_X1_read (l_code : Nat → Int32) (l_length : Int32) (t_bytes : Nat → Int32) (t_end : Int32) (t_at : Int32) (t_start : Int32) (t_faultKind : Int32) (t_faultPlace : Int32) : Option ((Nat → Int32) × Int32 × Int32 × Int32 × Int32 × Int32) := b6 (f_X1_readSum 40 l_code 0 t_bytes t_end t_at t_start t_faultKind t_faultPlace 0) (fun c1 c2 c3 c4 c5 c6 => b4 (f_X7_needEnd t_bytes t_end c3 c4 c5 c6) (fun c7 c8 c9 c10 => some (c1, c2, c7, c8, c9, c10)))
def rm_X1_read : Room := { frames := 47, cells := 0, slots := 0, locals := 1170 }
set_option maxRecDepth 100000 in
set_option maxHeartbeats 4000000 in
theorem t_X1_read {J : Jt} {a0 : Nat → Nat} {a1 : Nat → Nat} {l_code : Nat → Int32} {l_values : Nat → Int32} {l_stack : Nat → Int32} {l_length : Int32} {t_bytes : Nat → Int32} {t_held : Int32} {t_end : Int32} {t_at : Int32} {t_start : Int32} {t_faultKind : Int32} {t_faultPlace : Int32} {o_l_code : Nat → Int32} {o_l_length : Int32} {o_t_at : Int32} {o_t_start : Int32} {o_t_faultKind : Int32} {o_t_faultPlace : Int32} (h : f_X1_read l_code l_length t_bytes t_end t_at t_start t_faultKind t_faultPlace = some (o_l_code, o_l_length, o_t_at, o_t_start, o_t_faultKind, o_t_faultPlace)) : Mt J yX1_read cX1_read 2 none rm_X1_read [.ref (a0 0), .ref (a1 0)] (cs_X1 J.2.2.1 a0 l_code l_values l_stack l_length ++ cs_X7 J.2.2.1 a1 t_bytes t_held t_end t_at t_start t_faultKind t_faultPlace) none (cs_X1 J.2.2.1 a0 o_l_code l_values l_stack o_l_length ++ cs_X7 J.2.2.1 a1 t_bytes t_held t_end o_t_at o_t_start o_t_faultKind o_t_faultPlace) := by
  refine Mt_of (own := RX1) (by decide) rfl (Nat.le_of_ble_eq_true rfl) rfl (fun Z C E => ?_)
  unfold f_X1_read at h
  show G J Z 0 0 (cs_X1 J.2.2.1 a0 l_code l_values l_stack l_length ++ cs_X7 J.2.2.1 a1 t_bytes t_held t_end t_at t_start t_faultKind t_faultPlace) 2 [(0, .ref (a0 0)), (1, .ref (a1 0))] 0 []
  refine g_aload_n (pc := 0) C 0 rfl dX1_read_0 ?_
  refine g_iconst (pc := 1) C dX1_read_1 ci_0 ?_
  refine g_put (pc := 2) C (w' := cs_X1 J.2.2.1 a0 l_code l_values l_stack 0 ++ cs_X7 J.2.2.1 a1 t_bytes t_held t_end t_at t_start t_faultKind t_faultPlace) FOK_X1 0 rfl rfl 3 (by decide) kw_338 rfl rfl rfl (Nat.le_of_ble_eq_true rfl) dX1_read_2 rfl ?_
  refine g_aload_n (pc := 5) C 0 rfl dX1_read_5 ?_
  refine g_aload_n (pc := 6) C 1 rfl dX1_read_6 ?_
  refine g_iconst (pc := 7) C dX1_read_7 ci_0 ?_
  obtain ⟨c1, c2, c3, c4, c5, c6, hc, h⟩ := b6_of h
  refine g_callV (pc := 8) C (w' := cs_X1 J.2.2.1 a0 c1 l_values l_stack c2 ++ cs_X7 J.2.2.1 a1 t_bytes t_held t_end c3 c4 c5 c6) (As := [.ref (a1 0), .int 0]) (st := []) (ci := 1) (q0 := 0) rfl rfl (t_X1_readSum 40 a0 a1 _ _ _ _ _ _ _ _ _ _ _ _ _ _ _ _ _ _ hc) Sub.same kw_759 kw_761 kw_5 kw_93 hy_X1_readSum kw_762 rfl (Nat.le_of_ble_eq_true rfl) (Nat.le_of_ble_eq_true rfl) (Nat.le_of_ble_eq_true rfl) (Nat.le_of_ble_eq_true rfl) (Nat.le_of_ble_eq_true rfl) dX1_read_8 ?_
  refine g_aload_n (pc := 11) C 1 rfl dX1_read_11 ?_
  obtain ⟨c7, c8, c9, c10, hc, h⟩ := b4_of h
  refine g_callV (pc := 12) C (w' := cs_X1 J.2.2.1 a0 c1 l_values l_stack c2 ++ cs_X7 J.2.2.1 a1 t_bytes t_held t_end c7 c8 c9 c10) (As := []) (st := []) (ci := 7) (q0 := 4) rfl rfl (t_X7_needEnd (a0 := a1) hc) (Sub.gen [4, 5] [0, 1, 2, 3] [0, 1, 2, 3, 4, 5] rfl (by decide) rfl (by decide) (by decide) rfl (by decide)) kw_797 kw_798 kw_799 kw_87 hy_X7_needEnd kw_800 rfl (Nat.le_of_ble_eq_true rfl) (Nat.le_of_ble_eq_true rfl) (Nat.le_of_ble_eq_true rfl) (Nat.le_of_ble_eq_true rfl) (Nat.le_of_ble_eq_true rfl) dX1_read_12 ?_
  cases h
  exact g_vret C E dX1_read_15
noncomputable def f_X1_joined  (n1 : Int32) (n2 : Int32) (n3 : Int32) : Option (Int32) := if n1 = (-13) then if n3 ≤ n2 then some n3 else some n2 else if n1 = (-12) then if n3 = 0 then some 0 else if n3 = 0 then none else some (n2 - n2 / n3 * n3) else if n1 = (-11) then if n3 = 0 then some 0 else if n3 = 0 then none else some (n2 / n3) else if n1 = (-10) then some (n2 * n3) else if n1 = (-9) then some (n2 - n3) else if n1 = (-8) then some (n2 + n3) else if n2 ≤ n3 then some n3 else some n2
def rm_X1_joined : Room := { frames := 0, cells := 0, slots := 0, locals := 0 }
set_option maxRecDepth 100000 in
set_option maxHeartbeats 4000000 in
theorem t_X1_joined {J : Jt}  {n1 : Int32} {n2 : Int32} {n3 : Int32} {r : Int32} (h : f_X1_joined n1 n2 n3 = some r) : Mt J yX1_joined cX1_joined 3 (some .int) rm_X1_joined [.int n1, .int n2, .int n3] ([]) (some (.int r)) ([]) := by
  refine Mt_of (own := RX1) (by decide) rfl (Nat.le_of_ble_eq_true rfl) rfl (fun Z C E => ?_)
  unfold f_X1_joined at h
  show G J Z 0 0 ([]) 3 [(0, .int n1), (1, .int n2), (2, .int n3)] 0 []
  refine g_iload_n (pc := 0) C 0 rfl dX1_joined_0 ?_
  rcases ite_of h with ⟨hc, h⟩ | ⟨hnm13, h⟩
  · refine g_tsIn (pc := 1) C (tgt := 76) dX1_joined_1 (by rw [hc]; decide) (by rw [hc]; decide) (by rw [hc]; rfl) rfl ?_
    refine g_iload_n (pc := 76) C 1 rfl dX1_joined_76 ?_
    refine g_iload_n (pc := 77) C 2 rfl dX1_joined_77 ?_
    refine g_icmp_ge (pc := 78) C (tgt := 85) dX1_joined_78 rfl h (fun h => ?_) (fun h => ?_)
    · refine g_iload_n (pc := 85) C 2 rfl dX1_joined_85 ?_
      cases h
      exact g_iret C E dX1_joined_86
    · refine g_iload_n (pc := 81) C 1 rfl dX1_joined_81 ?_
      refine g_goto (pc := 82) C (tgt := 86) dX1_joined_82 rfl ?_
      cases h
      exact g_iret C E dX1_joined_86
  rcases ite_of h with ⟨hc, h⟩ | ⟨hnm12, h⟩
  · refine g_tsIn (pc := 1) C (tgt := 64) dX1_joined_1 (by rw [hc]; decide) (by rw [hc]; decide) (by rw [hc]; rfl) rfl ?_
    refine g_iload_n (pc := 64) C 2 rfl dX1_joined_64 ?_
    refine g_if_ne (pc := 65) C (tgt := 72) dX1_joined_65 rfl h (fun h => ?_) (fun h => ?_)
    · refine g_iload_n (pc := 72) C 1 rfl dX1_joined_72 ?_
      refine g_iload_n (pc := 73) C 2 rfl dX1_joined_73 ?_
      obtain ⟨hz, h⟩ := nz_of h
      refine g_irem (pc := 74) C dX1_joined_74 hz ?_
      cases h
      exact g_iret C E dX1_joined_75
    · refine g_iconst (pc := 68) C dX1_joined_68 ci_0 ?_
      refine g_goto (pc := 69) C (tgt := 75) dX1_joined_69 rfl ?_
      cases h
      exact g_iret C E dX1_joined_75
  rcases ite_of h with ⟨hc, h⟩ | ⟨hnm11, h⟩
  · refine g_tsIn (pc := 1) C (tgt := 52) dX1_joined_1 (by rw [hc]; decide) (by rw [hc]; decide) (by rw [hc]; rfl) rfl ?_
    refine g_iload_n (pc := 52) C 2 rfl dX1_joined_52 ?_
    refine g_if_ne (pc := 53) C (tgt := 60) dX1_joined_53 rfl h (fun h => ?_) (fun h => ?_)
    · refine g_iload_n (pc := 60) C 1 rfl dX1_joined_60 ?_
      refine g_iload_n (pc := 61) C 2 rfl dX1_joined_61 ?_
      obtain ⟨hz, h⟩ := nz_of h
      refine g_idiv (pc := 62) C dX1_joined_62 hz ?_
      cases h
      exact g_iret C E dX1_joined_63
    · refine g_iconst (pc := 56) C dX1_joined_56 ci_0 ?_
      refine g_goto (pc := 57) C (tgt := 63) dX1_joined_57 rfl ?_
      cases h
      exact g_iret C E dX1_joined_63
  rcases ite_of h with ⟨hc, h⟩ | ⟨hnm10, h⟩
  · refine g_tsIn (pc := 1) C (tgt := 48) dX1_joined_1 (by rw [hc]; decide) (by rw [hc]; decide) (by rw [hc]; rfl) rfl ?_
    refine g_iload_n (pc := 48) C 1 rfl dX1_joined_48 ?_
    refine g_iload_n (pc := 49) C 2 rfl dX1_joined_49 ?_
    refine g_imul (pc := 50) C dX1_joined_50 ?_
    cases h
    exact g_iret C E dX1_joined_51
  rcases ite_of h with ⟨hc, h⟩ | ⟨hnm9, h⟩
  · refine g_tsIn (pc := 1) C (tgt := 44) dX1_joined_1 (by rw [hc]; decide) (by rw [hc]; decide) (by rw [hc]; rfl) rfl ?_
    refine g_iload_n (pc := 44) C 1 rfl dX1_joined_44 ?_
    refine g_iload_n (pc := 45) C 2 rfl dX1_joined_45 ?_
    refine g_isub (pc := 46) C dX1_joined_46 ?_
    cases h
    exact g_iret C E dX1_joined_47
  rcases ite_of h with ⟨hc, h⟩ | ⟨hnm8, h⟩
  · refine g_tsIn (pc := 1) C (tgt := 40) dX1_joined_1 (by rw [hc]; decide) (by rw [hc]; decide) (by rw [hc]; rfl) rfl ?_
    refine g_iload_n (pc := 40) C 1 rfl dX1_joined_40 ?_
    refine g_iload_n (pc := 41) C 2 rfl dX1_joined_41 ?_
    refine g_iadd (pc := 42) C dX1_joined_42 ?_
    cases h
    exact g_iret C E dX1_joined_43
  have hqm13 := lv_neT hnm13 (a := -13) (by decide)
  have hqm12 := lv_neT hnm12 (a := -12) (by decide)
  have hqm11 := lv_neT hnm11 (a := -11) (by decide)
  have hqm10 := lv_neT hnm10 (a := -10) (by decide)
  have hqm9 := lv_neT hnm9 (a := -9) (by decide)
  have hqm8 := lv_neT hnm8 (a := -8) (by decide)
  refine g_tsOut (pc := 1) C (tgt := 87) dX1_joined_1 (by omega) rfl ?_
  refine g_iload_n (pc := 87) C 1 rfl dX1_joined_87 ?_
  refine g_iload_n (pc := 88) C 2 rfl dX1_joined_88 ?_
  refine g_icmp_le (pc := 89) C (tgt := 96) dX1_joined_89 rfl h (fun h => ?_) (fun h => ?_)
  · refine g_iload_n (pc := 96) C 2 rfl dX1_joined_96 ?_
    cases h
    exact g_iret C E dX1_joined_97
  · refine g_iload_n (pc := 92) C 1 rfl dX1_joined_92 ?_
    refine g_goto (pc := 93) C (tgt := 97) dX1_joined_93 rfl ?_
    cases h
    exact g_iret C E dX1_joined_97
noncomputable def f_X1_tells_177  (l_code : Nat → Int32) (l_length : Int32) (n1 : Int32) (n2 : Int32) (n3 : Int32) (n4 : Int32) (n5 : Int32) (n6 : Int32) (n7 : Int32) (l_values : Nat → Int32) (l_stack : Nat → Int32) : Option (Int32 × (Nat → Int32) × (Nat → Int32)) := if ixb 0 32 then if 0 ≤ (l_stack (0 : Int32).toNatClampNeg) then if ixb 0 32 then if (l_stack (0 : Int32).toNatClampNeg) ≤ 8 then if ixb 0 32 then some (l_stack (0 : Int32).toNatClampNeg, l_values, l_stack) else none else some (8, l_values, l_stack) else none else some (0, l_values, l_stack) else none
noncomputable def f_X1_tells_60  (l_code : Nat → Int32) (l_length : Int32) (n1 : Int32) (n2 : Int32) (n3 : Int32) (n4 : Int32) (n5 : Int32) (n6 : Int32) (n7 : Int32) : Nat → Int32 → Int32 → (Nat → Int32) → (Nat → Int32) → Option (Int32 × (Nat → Int32) × (Nat → Int32))
  | 0, _, _, _, _ => none
  | n + 1, x8, x9, l_values, l_stack => if l_length ≤ x9 then f_X1_tells_177 l_code l_length n1 n2 n3 n4 n5 n6 n7 l_values l_stack else if 150 ≤ x9 then f_X1_tells_177 l_code l_length n1 n2 n3 n4 n5 n6 n7 l_values l_stack else if ixb x9 150 then if (l_code x9.toNatClampNeg) < (-7) then if x8 < 2 then f_X1_tells_60 l_code l_length n1 n2 n3 n4 n5 n6 n7 n x8 (x9 + 1) l_values l_stack else if ixb ((x8 + (-1)) - 1) 32 then if ixb (x8 + (-1)) 32 then b1 (f_X1_joined (l_code x9.toNatClampNeg) (l_stack ((x8 + (-1)) - 1).toNatClampNeg) (l_stack (x8 + (-1)).toNatClampNeg)) (fun v1 => if ixb ((x8 + (-1)) - 1) 32 then f_X1_tells_60 l_code l_length n1 n2 n3 n4 n5 n6 n7 n (x8 + (-1)) (x9 + 1) l_values (upd l_stack ((x8 + (-1)) - 1).toNatClampNeg v1) else none) else none else none else if 32 ≤ x8 then f_X1_tells_60 l_code l_length n1 n2 n3 n4 n5 n6 n7 n x8 (x9 + 1) l_values l_stack else if (l_code x9.toNatClampNeg) < 0 then if ixb ((-1) - (l_code x9.toNatClampNeg)) 7 then if ixb x8 32 then f_X1_tells_60 l_code l_length n1 n2 n3 n4 n5 n6 n7 n (x8 + 1) (x9 + 1) l_values (upd l_stack x8.toNatClampNeg (l_values ((-1) - (l_code x9.toNatClampNeg)).toNatClampNeg)) else none else none else if ixb x8 32 then f_X1_tells_60 l_code l_length n1 n2 n3 n4 n5 n6 n7 n (x8 + 1) (x9 + 1) l_values (upd l_stack x8.toNatClampNeg (l_code x9.toNatClampNeg)) else none else none
noncomputable def f_X1_tells (l_code : Nat → Int32) (l_values : Nat → Int32) (l_stack : Nat → Int32) (l_length : Int32) (n1 : Int32) (n2 : Int32) (n3 : Int32) (n4 : Int32) (n5 : Int32) (n6 : Int32) (n7 : Int32) : Option (Int32 × (Nat → Int32) × (Nat → Int32)) := if ixb 0 7 then if ixb 1 7 then if ixb 2 7 then if ixb 3 7 then if ixb 4 7 then if ixb 5 7 then if ixb 6 7 then f_X1_tells_60 l_code l_length n1 n2 n3 n4 n5 n6 n7 FU 0 0 (upd (upd (upd (upd (upd (upd (upd l_values (0 : Int32).toNatClampNeg n1) (1 : Int32).toNatClampNeg n2) (2 : Int32).toNatClampNeg n3) (3 : Int32).toNatClampNeg n4) (4 : Int32).toNatClampNeg n5) (5 : Int32).toNatClampNeg n6) (6 : Int32).toNatClampNeg n7) l_stack else none else none else none else none else none else none else none
def rm_X1_tells : Room := { frames := 1, cells := 0, slots := 0, locals := 22 }
set_option maxRecDepth 100000 in
set_option maxHeartbeats 4000000 in
theorem j_X1_tells_177 {J : Jt} {Z : Zt} {a0 : Nat → Nat} {l_code : Nat → Int32} {l_length : Int32} {n1 : Int32} {n2 : Int32} {n3 : Int32} {n4 : Int32} {n5 : Int32} {n6 : Int32} {n7 : Int32} {r : Int32} {o_l_values : Nat → Int32} {o_l_stack : Nat → Int32} (C : Cx J Z cX1_tells 11 RX1 (some .int) rm_X1_tells) (E : Ez J Z 0 0 (some (.int r)) (cs_X1 J.2.2.1 a0 l_code o_l_values o_l_stack l_length)) : ∀ (l_values : Nat → Int32) (l_stack : Nat → Int32), f_X1_tells_177 l_code l_length n1 n2 n3 n4 n5 n6 n7 l_values l_stack = some (r, o_l_values, o_l_stack) → G J Z 0 0 (cs_X1 J.2.2.1 a0 l_code l_values l_stack l_length) 11 [(0, .ref (a0 0))] 177 [] := by
  intro l_values l_stack h
  unfold f_X1_tells_177 at h
  refine g_aload_n (pc := 177) C 0 rfl dX1_tells_177 ?_
  refine g_get (pc := 178) C FOK_X1 0 rfl rfl 2 (by decide) kw_337 rfl dX1_tells_178 ?_
  refine g_iconst (pc := 181) C dX1_tells_181 ci_0 ?_
  obtain ⟨hi, h⟩ := ix_of h
  refine g_iald (pc := 182) C 3 rfl hi dX1_tells_182 ?_
  refine g_if_ge (pc := 183) C (tgt := 190) dX1_tells_183 rfl h (fun h => ?_) (fun h => ?_)
  · refine g_aload_n (pc := 190) C 0 rfl dX1_tells_190 ?_
    refine g_get (pc := 191) C FOK_X1 0 rfl rfl 2 (by decide) kw_337 rfl dX1_tells_191 ?_
    refine g_iconst (pc := 194) C dX1_tells_194 ci_0 ?_
    obtain ⟨hi, h⟩ := ix_of h
    refine g_iald (pc := 195) C 3 rfl hi dX1_tells_195 ?_
    refine g_bipush (pc := 196) C dX1_tells_196 cb_8 ?_
    refine g_icmp_le (pc := 198) C (tgt := 206) dX1_tells_198 rfl h (fun h => ?_) (fun h => ?_)
    · refine g_aload_n (pc := 206) C 0 rfl dX1_tells_206 ?_
      refine g_get (pc := 207) C FOK_X1 0 rfl rfl 2 (by decide) kw_337 rfl dX1_tells_207 ?_
      refine g_iconst (pc := 210) C dX1_tells_210 ci_0 ?_
      obtain ⟨hi, h⟩ := ix_of h
      refine g_iald (pc := 211) C 3 rfl hi dX1_tells_211 ?_
      cases h
      exact g_iret C E dX1_tells_212
    · refine g_bipush (pc := 201) C dX1_tells_201 cb_8 ?_
      refine g_goto (pc := 203) C (tgt := 212) dX1_tells_203 rfl ?_
      cases h
      exact g_iret C E dX1_tells_212
  · refine g_iconst (pc := 186) C dX1_tells_186 ci_0 ?_
    refine g_goto (pc := 187) C (tgt := 212) dX1_tells_187 rfl ?_
    cases h
    exact g_iret C E dX1_tells_212
set_option maxRecDepth 100000 in
set_option maxHeartbeats 4000000 in
theorem j_X1_tells_60 {J : Jt} {Z : Zt} {a0 : Nat → Nat} {l_code : Nat → Int32} {l_length : Int32} {n1 : Int32} {n2 : Int32} {n3 : Int32} {n4 : Int32} {n5 : Int32} {n6 : Int32} {n7 : Int32} {r : Int32} {o_l_values : Nat → Int32} {o_l_stack : Nat → Int32} (C : Cx J Z cX1_tells 11 RX1 (some .int) rm_X1_tells) (E : Ez J Z 0 0 (some (.int r)) (cs_X1 J.2.2.1 a0 l_code o_l_values o_l_stack l_length)) : ∀ (n : Nat) (x8 : Int32) (x9 : Int32) (l_values : Nat → Int32) (l_stack : Nat → Int32), f_X1_tells_60 l_code l_length n1 n2 n3 n4 n5 n6 n7 n x8 x9 l_values l_stack = some (r, o_l_values, o_l_stack) → G J Z 0 0 (cs_X1 J.2.2.1 a0 l_code l_values l_stack l_length) 11 [(0, .ref (a0 0)), (8, .int x8), (9, .int x9)] 60 [] := by
  intro n
  induction n with
  | zero =>
    intro x8 x9 l_values l_stack h
    rw [f_X1_tells_60] at h
    cases h
  | succ n ih =>
    intro x8 x9 l_values l_stack h
    rw [f_X1_tells_60] at h
    refine g_iload (pc := 60) C 2 rfl dX1_tells_60 ?_
    refine g_aload_n (pc := 62) C 0 rfl dX1_tells_62 ?_
    refine g_get (pc := 63) C FOK_X1 0 rfl rfl 3 (by decide) kw_338 rfl dX1_tells_63 ?_
    refine g_icmp_ge (pc := 66) C (tgt := 177) dX1_tells_66 rfl h (fun h => ?_) (fun h => ?_)
    · refine g_lv [0] rfl ?_
      exact j_X1_tells_177 C E    l_values l_stack h
    · refine g_iload (pc := 69) C 2 rfl dX1_tells_69 ?_
      refine g_sipush (pc := 71) C dX1_tells_71 cs_150 ?_
      refine g_icmp_ge (pc := 74) C (tgt := 177) dX1_tells_74 rfl h (fun h => ?_) (fun h => ?_)
      · refine g_lv [0] rfl ?_
        exact j_X1_tells_177 C E    l_values l_stack h
      · refine g_aload_n (pc := 77) C 0 rfl dX1_tells_77 ?_
        refine g_get (pc := 78) C FOK_X1 0 rfl rfl 0 (by decide) kw_335 rfl dX1_tells_78 ?_
        refine g_iload (pc := 81) C 2 rfl dX1_tells_81 ?_
        obtain ⟨hi, h⟩ := ix_of h
        refine g_iald (pc := 83) C 1 rfl hi dX1_tells_83 ?_
        refine g_istore (pc := 84) C [(10, .int (l_code x9.toNatClampNeg)), (0, .ref (a0 0)), (8, .int x8), (9, .int x9)] dX1_tells_84 (by decide) rfl ?_
        refine g_iload (pc := 86) C 0 rfl dX1_tells_86 ?_
        refine g_bipush (pc := 88) C dX1_tells_88 cb_m7 ?_
        refine g_icmp_lt (pc := 90) C (tgt := 132) dX1_tells_90 rfl h (fun h => ?_) (fun h => ?_)
        · refine g_iload (pc := 132) C 2 rfl dX1_tells_132 ?_
          refine g_iconst (pc := 134) C dX1_tells_134 ci_2 ?_
          refine g_icmp_lt (pc := 135) C (tgt := 171) dX1_tells_135 rfl h (fun h => ?_) (fun h => ?_)
          · refine g_iinc (pc := 171) C (j := 3) [(9, .int (x9 + 1)), (10, .int (l_code x9.toNatClampNeg)), (0, .ref (a0 0)), (8, .int x8)] dX1_tells_171 rfl (ii_1 _) (by decide) rfl ?_
            refine g_goto (pc := 174) C (tgt := 60) dX1_tells_174 rfl ?_
            refine g_lv [2, 3, 0] rfl ?_
            exact ih x8 (x9 + 1) l_values l_stack h
          · refine g_iinc (pc := 138) C (j := 2) [(8, .int (x8 + (-1))), (10, .int (l_code x9.toNatClampNeg)), (0, .ref (a0 0)), (9, .int x9)] dX1_tells_138 rfl (ii_m1 _) (by decide) rfl ?_
            refine g_aload_n (pc := 141) C 2 rfl dX1_tells_141 ?_
            refine g_get (pc := 142) C FOK_X1 0 rfl rfl 2 (by decide) kw_337 rfl dX1_tells_142 ?_
            refine g_iload (pc := 145) C 0 rfl dX1_tells_145 ?_
            refine g_iconst (pc := 147) C dX1_tells_147 ci_1 ?_
            refine g_isub (pc := 148) C dX1_tells_148 ?_
            refine g_iload (pc := 149) C 1 rfl dX1_tells_149 ?_
            refine g_aload_n (pc := 151) C 2 rfl dX1_tells_151 ?_
            refine g_get (pc := 152) C FOK_X1 0 rfl rfl 2 (by decide) kw_337 rfl dX1_tells_152 ?_
            refine g_iload (pc := 155) C 0 rfl dX1_tells_155 ?_
            refine g_iconst (pc := 157) C dX1_tells_157 ci_1 ?_
            refine g_isub (pc := 158) C dX1_tells_158 ?_
            obtain ⟨hi, h⟩ := ix_of h
            refine g_iald (pc := 159) C 3 rfl hi dX1_tells_159 ?_
            refine g_aload_n (pc := 160) C 2 rfl dX1_tells_160 ?_
            refine g_get (pc := 161) C FOK_X1 0 rfl rfl 2 (by decide) kw_337 rfl dX1_tells_161 ?_
            refine g_iload (pc := 164) C 0 rfl dX1_tells_164 ?_
            obtain ⟨hi, h⟩ := ix_of h
            refine g_iald (pc := 166) C 3 rfl hi dX1_tells_166 ?_
            obtain ⟨v1, hc, h⟩ := b1_of h
            refine g_callS (pc := 167) C (w' := cs_X1 J.2.2.1 a0 l_code l_values l_stack l_length) (As := [.int (l_code x9.toNatClampNeg), .int (l_stack ((x8 + (-1)) - 1).toNatClampNeg), .int (l_stack (x8 + (-1)).toNatClampNeg)]) (st := [.int ((x8 + (-1)) - 1), .ref (a0 3)]) (t_X1_joined hc) Sub.nil kw_903 kw_904 kw_93 hy_X1_joined kw_905 rfl (Nat.le_of_ble_eq_true rfl) (Nat.le_of_ble_eq_true rfl) (Nat.le_of_ble_eq_true rfl) (Nat.le_of_ble_eq_true rfl) (Nat.le_of_ble_eq_true rfl) dX1_tells_167 ?_
            obtain ⟨hi, h⟩ := ix_of h
            refine g_iast (pc := 170) C (w' := cs_X1 J.2.2.1 a0 l_code l_values (upd l_stack ((x8 + (-1)) - 1).toNatClampNeg v1) l_length) 3 rfl hi dX1_tells_170 rfl ?_
            refine g_iinc (pc := 171) C (j := 3) [(9, .int (x9 + 1)), (8, .int (x8 + (-1))), (10, .int (l_code x9.toNatClampNeg)), (0, .ref (a0 0))] dX1_tells_171 rfl (ii_1 _) (by decide) rfl ?_
            refine g_goto (pc := 174) C (tgt := 60) dX1_tells_174 rfl ?_
            refine g_lv [3, 1, 0] rfl ?_
            exact ih (x8 + (-1)) (x9 + 1) l_values (upd l_stack ((x8 + (-1)) - 1).toNatClampNeg v1) h
        · refine g_iload (pc := 93) C 2 rfl dX1_tells_93 ?_
          refine g_bipush (pc := 95) C dX1_tells_95 cb_32 ?_
          refine g_icmp_ge (pc := 97) C (tgt := 171) dX1_tells_97 rfl h (fun h => ?_) (fun h => ?_)
          · refine g_iinc (pc := 171) C (j := 3) [(9, .int (x9 + 1)), (10, .int (l_code x9.toNatClampNeg)), (0, .ref (a0 0)), (8, .int x8)] dX1_tells_171 rfl (ii_1 _) (by decide) rfl ?_
            refine g_goto (pc := 174) C (tgt := 60) dX1_tells_174 rfl ?_
            refine g_lv [2, 3, 0] rfl ?_
            exact ih x8 (x9 + 1) l_values l_stack h
          · refine g_aload_n (pc := 100) C 1 rfl dX1_tells_100 ?_
            refine g_get (pc := 101) C FOK_X1 0 rfl rfl 2 (by decide) kw_337 rfl dX1_tells_101 ?_
            refine g_iload (pc := 104) C 2 rfl dX1_tells_104 ?_
            refine g_iload (pc := 106) C 0 rfl dX1_tells_106 ?_
            refine g_if_lt (pc := 108) C (tgt := 116) dX1_tells_108 rfl h (fun h => ?_) (fun h => ?_)
            · refine g_aload_n (pc := 116) C 1 rfl dX1_tells_116 ?_
              refine g_get (pc := 117) C FOK_X1 0 rfl rfl 1 (by decide) kw_336 rfl dX1_tells_117 ?_
              refine g_iconst (pc := 120) C dX1_tells_120 ci_m1 ?_
              refine g_iload (pc := 121) C 0 rfl dX1_tells_121 ?_
              refine g_isub (pc := 123) C dX1_tells_123 ?_
              obtain ⟨hi, h⟩ := ix_of h
              refine g_iald (pc := 124) C 2 rfl hi dX1_tells_124 ?_
              obtain ⟨hi, h⟩ := ix_of h
              refine g_iast (pc := 125) C (w' := cs_X1 J.2.2.1 a0 l_code l_values (upd l_stack x8.toNatClampNeg (l_values ((-1) - (l_code x9.toNatClampNeg)).toNatClampNeg)) l_length) 3 rfl hi dX1_tells_125 rfl ?_
              refine g_iinc (pc := 126) C (j := 2) [(8, .int (x8 + 1)), (10, .int (l_code x9.toNatClampNeg)), (0, .ref (a0 0)), (9, .int x9)] dX1_tells_126 rfl (ii_1 _) (by decide) rfl ?_
              refine g_goto (pc := 129) C (tgt := 171) dX1_tells_129 rfl ?_
              refine g_iinc (pc := 171) C (j := 3) [(9, .int (x9 + 1)), (8, .int (x8 + 1)), (10, .int (l_code x9.toNatClampNeg)), (0, .ref (a0 0))] dX1_tells_171 rfl (ii_1 _) (by decide) rfl ?_
              refine g_goto (pc := 174) C (tgt := 60) dX1_tells_174 rfl ?_
              refine g_lv [3, 1, 0] rfl ?_
              exact ih (x8 + 1) (x9 + 1) l_values (upd l_stack x8.toNatClampNeg (l_values ((-1) - (l_code x9.toNatClampNeg)).toNatClampNeg)) h
            · refine g_iload (pc := 111) C 0 rfl dX1_tells_111 ?_
              refine g_goto (pc := 113) C (tgt := 125) dX1_tells_113 rfl ?_
              obtain ⟨hi, h⟩ := ix_of h
              refine g_iast (pc := 125) C (w' := cs_X1 J.2.2.1 a0 l_code l_values (upd l_stack x8.toNatClampNeg (l_code x9.toNatClampNeg)) l_length) 3 rfl hi dX1_tells_125 rfl ?_
              refine g_iinc (pc := 126) C (j := 2) [(8, .int (x8 + 1)), (10, .int (l_code x9.toNatClampNeg)), (0, .ref (a0 0)), (9, .int x9)] dX1_tells_126 rfl (ii_1 _) (by decide) rfl ?_
              refine g_goto (pc := 129) C (tgt := 171) dX1_tells_129 rfl ?_
              refine g_iinc (pc := 171) C (j := 3) [(9, .int (x9 + 1)), (8, .int (x8 + 1)), (10, .int (l_code x9.toNatClampNeg)), (0, .ref (a0 0))] dX1_tells_171 rfl (ii_1 _) (by decide) rfl ?_
              refine g_goto (pc := 174) C (tgt := 60) dX1_tells_174 rfl ?_
              refine g_lv [3, 1, 0] rfl ?_
              exact ih (x8 + 1) (x9 + 1) l_values (upd l_stack x8.toNatClampNeg (l_code x9.toNatClampNeg)) h
set_option maxRecDepth 100000 in
set_option maxHeartbeats 4000000 in
theorem t_X1_tells {J : Jt} {a0 : Nat → Nat} {l_code : Nat → Int32} {l_values : Nat → Int32} {l_stack : Nat → Int32} {l_length : Int32} {n1 : Int32} {n2 : Int32} {n3 : Int32} {n4 : Int32} {n5 : Int32} {n6 : Int32} {n7 : Int32} {r : Int32} {o_l_values : Nat → Int32} {o_l_stack : Nat → Int32} (h : f_X1_tells l_code l_values l_stack l_length n1 n2 n3 n4 n5 n6 n7 = some (r, o_l_values, o_l_stack)) : Mt J yX1_tells cX1_tells 11 (some .int) rm_X1_tells [.ref (a0 0), .int n1, .int n2, .int n3, .int n4, .int n5, .int n6, .int n7] (cs_X1 J.2.2.1 a0 l_code l_values l_stack l_length) (some (.int r)) (cs_X1 J.2.2.1 a0 l_code o_l_values o_l_stack l_length) := by
  refine Mt_of (own := RX1) (by decide) rfl (Nat.le_of_ble_eq_true rfl) rfl (fun Z C E => ?_)
  unfold f_X1_tells at h
  show G J Z 0 0 (cs_X1 J.2.2.1 a0 l_code l_values l_stack l_length) 11 [(0, .ref (a0 0)), (1, .int n1), (2, .int n2), (3, .int n3), (4, .int n4), (5, .int n5), (6, .int n6), (7, .int n7)] 0 []
  refine g_aload_n (pc := 0) C 0 rfl dX1_tells_0 ?_
  refine g_get (pc := 1) C FOK_X1 0 rfl rfl 1 (by decide) kw_336 rfl dX1_tells_1 ?_
  refine g_iconst (pc := 4) C dX1_tells_4 ci_0 ?_
  refine g_iload_n (pc := 5) C 1 rfl dX1_tells_5 ?_
  obtain ⟨hi, h⟩ := ix_of h
  refine g_iast (pc := 6) C (w' := cs_X1 J.2.2.1 a0 l_code (upd l_values (0 : Int32).toNatClampNeg n1) l_stack l_length) 2 rfl hi dX1_tells_6 rfl ?_
  refine g_aload_n (pc := 7) C 0 rfl dX1_tells_7 ?_
  refine g_get (pc := 8) C FOK_X1 0 rfl rfl 1 (by decide) kw_336 rfl dX1_tells_8 ?_
  refine g_iconst (pc := 11) C dX1_tells_11 ci_1 ?_
  refine g_iload_n (pc := 12) C 2 rfl dX1_tells_12 ?_
  obtain ⟨hi, h⟩ := ix_of h
  refine g_iast (pc := 13) C (w' := cs_X1 J.2.2.1 a0 l_code (upd (upd l_values (0 : Int32).toNatClampNeg n1) (1 : Int32).toNatClampNeg n2) l_stack l_length) 2 rfl hi dX1_tells_13 rfl ?_
  refine g_aload_n (pc := 14) C 0 rfl dX1_tells_14 ?_
  refine g_get (pc := 15) C FOK_X1 0 rfl rfl 1 (by decide) kw_336 rfl dX1_tells_15 ?_
  refine g_iconst (pc := 18) C dX1_tells_18 ci_2 ?_
  refine g_iload_n (pc := 19) C 3 rfl dX1_tells_19 ?_
  obtain ⟨hi, h⟩ := ix_of h
  refine g_iast (pc := 20) C (w' := cs_X1 J.2.2.1 a0 l_code (upd (upd (upd l_values (0 : Int32).toNatClampNeg n1) (1 : Int32).toNatClampNeg n2) (2 : Int32).toNatClampNeg n3) l_stack l_length) 2 rfl hi dX1_tells_20 rfl ?_
  refine g_aload_n (pc := 21) C 0 rfl dX1_tells_21 ?_
  refine g_get (pc := 22) C FOK_X1 0 rfl rfl 1 (by decide) kw_336 rfl dX1_tells_22 ?_
  refine g_iconst (pc := 25) C dX1_tells_25 ci_3 ?_
  refine g_iload (pc := 26) C 4 rfl dX1_tells_26 ?_
  obtain ⟨hi, h⟩ := ix_of h
  refine g_iast (pc := 28) C (w' := cs_X1 J.2.2.1 a0 l_code (upd (upd (upd (upd l_values (0 : Int32).toNatClampNeg n1) (1 : Int32).toNatClampNeg n2) (2 : Int32).toNatClampNeg n3) (3 : Int32).toNatClampNeg n4) l_stack l_length) 2 rfl hi dX1_tells_28 rfl ?_
  refine g_aload_n (pc := 29) C 0 rfl dX1_tells_29 ?_
  refine g_get (pc := 30) C FOK_X1 0 rfl rfl 1 (by decide) kw_336 rfl dX1_tells_30 ?_
  refine g_iconst (pc := 33) C dX1_tells_33 ci_4 ?_
  refine g_iload (pc := 34) C 5 rfl dX1_tells_34 ?_
  obtain ⟨hi, h⟩ := ix_of h
  refine g_iast (pc := 36) C (w' := cs_X1 J.2.2.1 a0 l_code (upd (upd (upd (upd (upd l_values (0 : Int32).toNatClampNeg n1) (1 : Int32).toNatClampNeg n2) (2 : Int32).toNatClampNeg n3) (3 : Int32).toNatClampNeg n4) (4 : Int32).toNatClampNeg n5) l_stack l_length) 2 rfl hi dX1_tells_36 rfl ?_
  refine g_aload_n (pc := 37) C 0 rfl dX1_tells_37 ?_
  refine g_get (pc := 38) C FOK_X1 0 rfl rfl 1 (by decide) kw_336 rfl dX1_tells_38 ?_
  refine g_iconst (pc := 41) C dX1_tells_41 ci_5 ?_
  refine g_iload (pc := 42) C 6 rfl dX1_tells_42 ?_
  obtain ⟨hi, h⟩ := ix_of h
  refine g_iast (pc := 44) C (w' := cs_X1 J.2.2.1 a0 l_code (upd (upd (upd (upd (upd (upd l_values (0 : Int32).toNatClampNeg n1) (1 : Int32).toNatClampNeg n2) (2 : Int32).toNatClampNeg n3) (3 : Int32).toNatClampNeg n4) (4 : Int32).toNatClampNeg n5) (5 : Int32).toNatClampNeg n6) l_stack l_length) 2 rfl hi dX1_tells_44 rfl ?_
  refine g_aload_n (pc := 45) C 0 rfl dX1_tells_45 ?_
  refine g_get (pc := 46) C FOK_X1 0 rfl rfl 1 (by decide) kw_336 rfl dX1_tells_46 ?_
  refine g_bipush (pc := 49) C dX1_tells_49 cb_6 ?_
  refine g_iload (pc := 51) C 7 rfl dX1_tells_51 ?_
  obtain ⟨hi, h⟩ := ix_of h
  refine g_iast (pc := 53) C (w' := cs_X1 J.2.2.1 a0 l_code (upd (upd (upd (upd (upd (upd (upd l_values (0 : Int32).toNatClampNeg n1) (1 : Int32).toNatClampNeg n2) (2 : Int32).toNatClampNeg n3) (3 : Int32).toNatClampNeg n4) (4 : Int32).toNatClampNeg n5) (5 : Int32).toNatClampNeg n6) (6 : Int32).toNatClampNeg n7) l_stack l_length) 2 rfl hi dX1_tells_53 rfl ?_
  refine g_iconst (pc := 54) C dX1_tells_54 ci_0 ?_
  refine g_istore (pc := 55) C [(8, .int 0), (0, .ref (a0 0)), (1, .int n1), (2, .int n2), (3, .int n3), (4, .int n4), (5, .int n5), (6, .int n6), (7, .int n7)] dX1_tells_55 (by decide) rfl ?_
  refine g_iconst (pc := 57) C dX1_tells_57 ci_0 ?_
  refine g_istore (pc := 58) C [(9, .int 0), (8, .int 0), (0, .ref (a0 0)), (1, .int n1), (2, .int n2), (3, .int n3), (4, .int n4), (5, .int n5), (6, .int n6), (7, .int n7)] dX1_tells_58 (by decide) rfl ?_
  refine g_lv [2, 1, 0] rfl ?_
  exact j_X1_tells_60 C E    FU 0 0 (upd (upd (upd (upd (upd (upd (upd l_values (0 : Int32).toNatClampNeg n1) (1 : Int32).toNatClampNeg n2) (2 : Int32).toNatClampNeg n3) (3 : Int32).toNatClampNeg n4) (4 : Int32).toNatClampNeg n5) (5 : Int32).toNatClampNeg n6) (6 : Int32).toNatClampNeg n7) l_stack h
noncomputable def f_X2_readBed (p_beds : Int32) (p_far : Nat → Int32) (t_bytes : Nat → Int32) (t_end : Int32) (t_at : Int32) (t_start : Int32) (t_faultKind : Int32) (t_faultPlace : Int32) : Option (Int32 × (Nat → Int32) × Int32 × Int32 × Int32 × Int32) := if p_beds < 6 then b5 (f_X7_number t_bytes t_end t_at t_start t_faultKind t_faultPlace 0 30) (fun v1 c2 c3 c4 c5 => if ixb p_beds 6 then some (p_beds + 1, upd p_far p_beds.toNatClampNeg v1, c2, c3, c4, c5) else none) else b2 (f_X7_blame t_start t_faultKind t_faultPlace 3) (fun c6 c7 => some (p_beds, p_far, t_at, t_start, c6, c7))
def rm_X2_readBed : Room := { frames := 2, cells := 0, slots := 0, locals := 63 }
set_option maxRecDepth 100000 in
set_option maxHeartbeats 4000000 in
theorem t_X2_readBed {J : Jt} {a0 : Nat → Nat} {a1 : Nat → Nat} {p_beds : Int32} {p_letters : Int32} {p_readers : Int32} {p_far : Nat → Int32} {p_drain : Nat → Int32} {p_length : Nat → Int32} {p_words : Nat → Int32} {p_home : Nat → Int32} {t_bytes : Nat → Int32} {t_held : Int32} {t_end : Int32} {t_at : Int32} {t_start : Int32} {t_faultKind : Int32} {t_faultPlace : Int32} {o_p_beds : Int32} {o_p_far : Nat → Int32} {o_t_at : Int32} {o_t_start : Int32} {o_t_faultKind : Int32} {o_t_faultPlace : Int32} (h : f_X2_readBed p_beds p_far t_bytes t_end t_at t_start t_faultKind t_faultPlace = some (o_p_beds, o_p_far, o_t_at, o_t_start, o_t_faultKind, o_t_faultPlace)) : Mt J yX2_readBed cX2_readBed 2 none rm_X2_readBed [.ref (a0 0), .ref (a1 0)] (cs_X2 J.2.2.1 a0 p_beds p_letters p_readers p_far p_drain p_length p_words p_home ++ cs_X7 J.2.2.1 a1 t_bytes t_held t_end t_at t_start t_faultKind t_faultPlace) none (cs_X2 J.2.2.1 a0 o_p_beds p_letters p_readers o_p_far p_drain p_length p_words p_home ++ cs_X7 J.2.2.1 a1 t_bytes t_held t_end o_t_at o_t_start o_t_faultKind o_t_faultPlace) := by
  refine Mt_of (own := RX2) (by decide) rfl (Nat.le_of_ble_eq_true rfl) rfl (fun Z C E => ?_)
  unfold f_X2_readBed at h
  show G J Z 0 0 (cs_X2 J.2.2.1 a0 p_beds p_letters p_readers p_far p_drain p_length p_words p_home ++ cs_X7 J.2.2.1 a1 t_bytes t_held t_end t_at t_start t_faultKind t_faultPlace) 2 [(0, .ref (a0 0)), (1, .ref (a1 0))] 0 []
  refine g_aload_n (pc := 0) C 0 rfl dX2_readBed_0 ?_
  refine g_get (pc := 1) C FOK_X2 0 rfl rfl 0 (by decide) kw_275 rfl dX2_readBed_1 ?_
  refine g_bipush (pc := 4) C dX2_readBed_4 cb_6 ?_
  refine g_icmp_lt (pc := 6) C (tgt := 15) dX2_readBed_6 rfl h (fun h => ?_) (fun h => ?_)
  · refine g_aload_n (pc := 15) C 0 rfl dX2_readBed_15 ?_
    refine g_get (pc := 16) C FOK_X2 0 rfl rfl 3 (by decide) kw_291 rfl dX2_readBed_16 ?_
    refine g_aload_n (pc := 19) C 0 rfl dX2_readBed_19 ?_
    refine g_get (pc := 20) C FOK_X2 0 rfl rfl 0 (by decide) kw_275 rfl dX2_readBed_20 ?_
    refine g_aload_n (pc := 23) C 1 rfl dX2_readBed_23 ?_
    refine g_iconst (pc := 24) C dX2_readBed_24 ci_0 ?_
    refine g_bipush (pc := 25) C dX2_readBed_25 cb_30 ?_
    obtain ⟨v1, c2, c3, c4, c5, hc, h⟩ := b5_of h
    refine g_callV (pc := 27) C (w' := cs_X2 J.2.2.1 a0 p_beds p_letters p_readers p_far p_drain p_length p_words p_home ++ cs_X7 J.2.2.1 a1 t_bytes t_held t_end c2 c3 c4 c5) (As := [.int 0, .int 30]) (st := [.int p_beds, .ref (a0 1)]) (ci := 7) (q0 := 6) rfl rfl (t_X7_number (a0 := a1) hc) (Sub.gen [6, 7] [0, 1, 2, 3, 4, 5] [0, 1, 2, 3, 4, 5, 6, 7] rfl (by decide) rfl (by decide) (by decide) rfl (by decide)) kw_699 kw_700 kw_701 kw_87 hy_X7_number kw_702 rfl (Nat.le_of_ble_eq_true rfl) (Nat.le_of_ble_eq_true rfl) (Nat.le_of_ble_eq_true rfl) (Nat.le_of_ble_eq_true rfl) (Nat.le_of_ble_eq_true rfl) dX2_readBed_27 ?_
    obtain ⟨hi, h⟩ := ix_of h
    refine g_iast (pc := 30) C (w' := cs_X2 J.2.2.1 a0 p_beds p_letters p_readers (upd p_far p_beds.toNatClampNeg v1) p_drain p_length p_words p_home ++ cs_X7 J.2.2.1 a1 t_bytes t_held t_end c2 c3 c4 c5) 1 rfl hi dX2_readBed_30 rfl ?_
    refine g_aload_n (pc := 31) C 0 rfl dX2_readBed_31 ?_
    refine g_dup (pc := 32) C dX2_readBed_32 rfl ?_
    refine g_get (pc := 33) C FOK_X2 0 rfl rfl 0 (by decide) kw_275 rfl dX2_readBed_33 ?_
    refine g_iconst (pc := 36) C dX2_readBed_36 ci_1 ?_
    refine g_iadd (pc := 37) C dX2_readBed_37 ?_
    refine g_put (pc := 38) C (w' := cs_X2 J.2.2.1 a0 (p_beds + 1) p_letters p_readers (upd p_far p_beds.toNatClampNeg v1) p_drain p_length p_words p_home ++ cs_X7 J.2.2.1 a1 t_bytes t_held t_end c2 c3 c4 c5) FOK_X2 0 rfl rfl 0 (by decide) kw_275 rfl rfl rfl (Nat.le_of_ble_eq_true rfl) dX2_readBed_38 rfl ?_
    cases h
    exact g_vret C E dX2_readBed_41
  · refine g_aload_n (pc := 9) C 1 rfl dX2_readBed_9 ?_
    refine g_iconst (pc := 10) C dX2_readBed_10 ci_3 ?_
    obtain ⟨c6, c7, hc, h⟩ := b2_of h
    refine g_callV (pc := 11) C (w' := cs_X2 J.2.2.1 a0 p_beds p_letters p_readers p_far p_drain p_length p_words p_home ++ cs_X7 J.2.2.1 a1 t_bytes t_held t_end t_at t_start c6 c7) (As := [.int 3]) (st := []) (ci := 7) (q0 := 6) rfl rfl (t_X7_blame (a0 := a1) hc) (Sub.gen [6, 7] [0, 1, 2, 3, 4, 5] [0, 1, 2, 3, 4, 5, 6, 7] rfl (by decide) rfl (by decide) (by decide) rfl (by decide)) kw_695 kw_696 kw_697 kw_87 hy_X7_blame kw_698 rfl (Nat.le_of_ble_eq_true rfl) (Nat.le_of_ble_eq_true rfl) (Nat.le_of_ble_eq_true rfl) (Nat.le_of_ble_eq_true rfl) (Nat.le_of_ble_eq_true rfl) dX2_readBed_11 ?_
    cases h
    exact g_vret C E dX2_readBed_14
noncomputable def f_X2_readLetter_94  (p_beds : Int32) (t_bytes : Nat → Int32) (t_end : Int32) (x2 : Int32) (p_letters : Int32) (p_drain : Nat → Int32) (p_length : Nat → Int32) (p_words : Nat → Int32) (t_at : Int32) (t_start : Int32) (t_faultKind : Int32) (t_faultPlace : Int32) : Option (Int32 × (Nat → Int32) × (Nat → Int32) × (Nat → Int32) × Int32 × Int32 × Int32 × Int32) := if ixb p_letters 6 then some (p_letters + 1, p_drain, upd p_length p_letters.toNatClampNeg x2, p_words, t_at, t_start, t_faultKind, t_faultPlace) else none
noncomputable def f_X2_readLetter_74  (p_beds : Int32) (t_bytes : Nat → Int32) (t_end : Int32) (x2 : Int32) (p_letters : Int32) (p_drain : Nat → Int32) (p_length : Nat → Int32) (p_words : Nat → Int32) (t_at : Int32) (t_start : Int32) (t_faultKind : Int32) (t_faultPlace : Int32) : Option (Int32 × (Nat → Int32) × (Nat → Int32) × (Nat → Int32) × Int32 × Int32 × Int32 × Int32) := b3 (f_X7_isAtNumber t_bytes t_end t_at t_start t_faultKind) (fun v1 c2 c3 => if v1 = 0 then f_X2_readLetter_94 p_beds t_bytes t_end x2 p_letters p_drain p_length p_words c2 c3 t_faultKind t_faultPlace else b5 (f_X7_number t_bytes t_end c2 c3 t_faultKind t_faultPlace 0 15) (fun v4 c5 c6 c7 c8 => b2 (f_X7_blame c6 c7 c8 3) (fun c9 c10 => f_X2_readLetter_94 p_beds t_bytes t_end x2 p_letters p_drain p_length p_words c5 c6 c9 c10)))
noncomputable def f_X2_readLetter_37  (p_beds : Int32) (t_bytes : Nat → Int32) (t_end : Int32) : Nat → Int32 → Int32 → (Nat → Int32) → (Nat → Int32) → (Nat → Int32) → Int32 → Int32 → Int32 → Int32 → Option (Int32 × (Nat → Int32) × (Nat → Int32) × (Nat → Int32) × Int32 × Int32 × Int32 × Int32)
  | 0, _, _, _, _, _, _, _, _, _ => none
  | n + 1, x2, p_letters, p_drain, p_length, p_words, t_at, t_start, t_faultKind, t_faultPlace => b5 (f_X7_number t_bytes t_end t_at t_start t_faultKind t_faultPlace 0 15) (fun v11 c12 c13 c14 c15 => if ixb ((p_letters * 8) + x2) 48 then if 8 ≤ (x2 + 1) then f_X2_readLetter_74 p_beds t_bytes t_end (x2 + 1) p_letters p_drain p_length (upd p_words ((p_letters * 8) + x2).toNatClampNeg v11) c12 c13 c14 c15 else b3 (f_X7_isAtNumber t_bytes t_end c12 c13 c14) (fun v16 c17 c18 => if v16 = 0 then f_X2_readLetter_74 p_beds t_bytes t_end (x2 + 1) p_letters p_drain p_length (upd p_words ((p_letters * 8) + x2).toNatClampNeg v11) c17 c18 c14 c15 else f_X2_readLetter_37 p_beds t_bytes t_end n (x2 + 1) p_letters p_drain p_length (upd p_words ((p_letters * 8) + x2).toNatClampNeg v11) c17 c18 c14 c15) else none)
noncomputable def f_X2_readLetter (p_beds : Int32) (p_letters : Int32) (p_drain : Nat → Int32) (p_length : Nat → Int32) (p_words : Nat → Int32) (t_bytes : Nat → Int32) (t_end : Int32) (t_at : Int32) (t_start : Int32) (t_faultKind : Int32) (t_faultPlace : Int32) : Option (Int32 × (Nat → Int32) × (Nat → Int32) × (Nat → Int32) × Int32 × Int32 × Int32 × Int32) := if p_letters < 6 then b5 (f_X7_number t_bytes t_end t_at t_start t_faultKind t_faultPlace 0 (p_beds - 1)) (fun v19 c20 c21 c22 c23 => if ixb p_letters 6 then f_X2_readLetter_37 p_beds t_bytes t_end FU 0 p_letters (upd p_drain p_letters.toNatClampNeg v19) p_length p_words c20 c21 c22 c23 else none) else b2 (f_X7_blame t_start t_faultKind t_faultPlace 3) (fun c24 c25 => some (p_letters, p_drain, p_length, p_words, t_at, t_start, c24, c25))
def rm_X2_readLetter : Room := { frames := 2, cells := 0, slots := 0, locals := 63 }
set_option maxRecDepth 100000 in
set_option maxHeartbeats 4000000 in
theorem j_X2_readLetter_94 {J : Jt} {Z : Zt} {a0 : Nat → Nat} {a1 : Nat → Nat} {p_beds : Int32} {p_readers : Int32} {p_far : Nat → Int32} {p_home : Nat → Int32} {t_bytes : Nat → Int32} {t_held : Int32} {t_end : Int32} {o_p_letters : Int32} {o_p_drain : Nat → Int32} {o_p_length : Nat → Int32} {o_p_words : Nat → Int32} {o_t_at : Int32} {o_t_start : Int32} {o_t_faultKind : Int32} {o_t_faultPlace : Int32} (C : Cx J Z cX2_readLetter 3 RX2 none rm_X2_readLetter) (E : Ez J Z 0 0 none (cs_X2 J.2.2.1 a0 p_beds o_p_letters p_readers p_far o_p_drain o_p_length o_p_words p_home ++ cs_X7 J.2.2.1 a1 t_bytes t_held t_end o_t_at o_t_start o_t_faultKind o_t_faultPlace)) : ∀ (x2 : Int32) (p_letters : Int32) (p_drain : Nat → Int32) (p_length : Nat → Int32) (p_words : Nat → Int32) (t_at : Int32) (t_start : Int32) (t_faultKind : Int32) (t_faultPlace : Int32), f_X2_readLetter_94 p_beds t_bytes t_end x2 p_letters p_drain p_length p_words t_at t_start t_faultKind t_faultPlace = some (o_p_letters, o_p_drain, o_p_length, o_p_words, o_t_at, o_t_start, o_t_faultKind, o_t_faultPlace) → G J Z 0 0 (cs_X2 J.2.2.1 a0 p_beds p_letters p_readers p_far p_drain p_length p_words p_home ++ cs_X7 J.2.2.1 a1 t_bytes t_held t_end t_at t_start t_faultKind t_faultPlace) 3 [(0, .ref (a0 0)), (2, .int x2)] 94 [] := by
  intro x2 p_letters p_drain p_length p_words t_at t_start t_faultKind t_faultPlace h
  unfold f_X2_readLetter_94 at h
  refine g_aload_n (pc := 94) C 0 rfl dX2_readLetter_94 ?_
  refine g_get (pc := 95) C FOK_X2 0 rfl rfl 5 (by decide) kw_297 rfl dX2_readLetter_95 ?_
  refine g_aload_n (pc := 98) C 0 rfl dX2_readLetter_98 ?_
  refine g_get (pc := 99) C FOK_X2 0 rfl rfl 1 (by decide) kw_281 rfl dX2_readLetter_99 ?_
  refine g_iload_n (pc := 102) C 1 rfl dX2_readLetter_102 ?_
  obtain ⟨hi, h⟩ := ix_of h
  refine g_iast (pc := 103) C (w' := cs_X2 J.2.2.1 a0 p_beds p_letters p_readers p_far p_drain (upd p_length p_letters.toNatClampNeg x2) p_words p_home ++ cs_X7 J.2.2.1 a1 t_bytes t_held t_end t_at t_start t_faultKind t_faultPlace) 3 rfl hi dX2_readLetter_103 rfl ?_
  refine g_aload_n (pc := 104) C 0 rfl dX2_readLetter_104 ?_
  refine g_dup (pc := 105) C dX2_readLetter_105 rfl ?_
  refine g_get (pc := 106) C FOK_X2 0 rfl rfl 1 (by decide) kw_281 rfl dX2_readLetter_106 ?_
  refine g_iconst (pc := 109) C dX2_readLetter_109 ci_1 ?_
  refine g_iadd (pc := 110) C dX2_readLetter_110 ?_
  refine g_put (pc := 111) C (w' := cs_X2 J.2.2.1 a0 p_beds (p_letters + 1) p_readers p_far p_drain (upd p_length p_letters.toNatClampNeg x2) p_words p_home ++ cs_X7 J.2.2.1 a1 t_bytes t_held t_end t_at t_start t_faultKind t_faultPlace) FOK_X2 0 rfl rfl 1 (by decide) kw_281 rfl rfl rfl (Nat.le_of_ble_eq_true rfl) dX2_readLetter_111 rfl ?_
  cases h
  exact g_vret C E dX2_readLetter_114
set_option maxRecDepth 100000 in
set_option maxHeartbeats 4000000 in
theorem j_X2_readLetter_74 {J : Jt} {Z : Zt} {a0 : Nat → Nat} {a1 : Nat → Nat} {p_beds : Int32} {p_readers : Int32} {p_far : Nat → Int32} {p_home : Nat → Int32} {t_bytes : Nat → Int32} {t_held : Int32} {t_end : Int32} {o_p_letters : Int32} {o_p_drain : Nat → Int32} {o_p_length : Nat → Int32} {o_p_words : Nat → Int32} {o_t_at : Int32} {o_t_start : Int32} {o_t_faultKind : Int32} {o_t_faultPlace : Int32} (C : Cx J Z cX2_readLetter 3 RX2 none rm_X2_readLetter) (E : Ez J Z 0 0 none (cs_X2 J.2.2.1 a0 p_beds o_p_letters p_readers p_far o_p_drain o_p_length o_p_words p_home ++ cs_X7 J.2.2.1 a1 t_bytes t_held t_end o_t_at o_t_start o_t_faultKind o_t_faultPlace)) : ∀ (x2 : Int32) (p_letters : Int32) (p_drain : Nat → Int32) (p_length : Nat → Int32) (p_words : Nat → Int32) (t_at : Int32) (t_start : Int32) (t_faultKind : Int32) (t_faultPlace : Int32), f_X2_readLetter_74 p_beds t_bytes t_end x2 p_letters p_drain p_length p_words t_at t_start t_faultKind t_faultPlace = some (o_p_letters, o_p_drain, o_p_length, o_p_words, o_t_at, o_t_start, o_t_faultKind, o_t_faultPlace) → G J Z 0 0 (cs_X2 J.2.2.1 a0 p_beds p_letters p_readers p_far p_drain p_length p_words p_home ++ cs_X7 J.2.2.1 a1 t_bytes t_held t_end t_at t_start t_faultKind t_faultPlace) 3 [(0, .ref (a0 0)), (1, .ref (a1 0)), (2, .int x2)] 74 [] := by
  intro x2 p_letters p_drain p_length p_words t_at t_start t_faultKind t_faultPlace h
  unfold f_X2_readLetter_74 at h
  refine g_aload_n (pc := 74) C 1 rfl dX2_readLetter_74 ?_
  obtain ⟨v1, c2, c3, hc, h⟩ := b3_of h
  refine g_callV (pc := 75) C (w' := cs_X2 J.2.2.1 a0 p_beds p_letters p_readers p_far p_drain p_length p_words p_home ++ cs_X7 J.2.2.1 a1 t_bytes t_held t_end c2 c3 t_faultKind t_faultPlace) (As := []) (st := []) (ci := 7) (q0 := 6) rfl rfl (t_X7_isAtNumber (a0 := a1) hc) (Sub.gen [6, 7] [0, 1, 2, 3, 4, 5] [0, 1, 2, 3, 4, 5, 6, 7] rfl (by decide) rfl (by decide) (by decide) rfl (by decide)) kw_713 kw_714 kw_715 kw_87 hy_X7_isAtNumber kw_716 rfl (Nat.le_of_ble_eq_true rfl) (Nat.le_of_ble_eq_true rfl) (Nat.le_of_ble_eq_true rfl) (Nat.le_of_ble_eq_true rfl) (Nat.le_of_ble_eq_true rfl) dX2_readLetter_75 ?_
  refine g_if_eq (pc := 78) C (tgt := 94) dX2_readLetter_78 rfl h (fun h => ?_) (fun h => ?_)
  · refine g_lv [0, 2] rfl ?_
    exact j_X2_readLetter_94 C E    x2 p_letters p_drain p_length p_words c2 c3 t_faultKind t_faultPlace h
  · refine g_aload_n (pc := 81) C 1 rfl dX2_readLetter_81 ?_
    refine g_iconst (pc := 82) C dX2_readLetter_82 ci_0 ?_
    refine g_bipush (pc := 83) C dX2_readLetter_83 cb_15 ?_
    obtain ⟨v4, c5, c6, c7, c8, hc, h⟩ := b5_of h
    refine g_callV (pc := 85) C (w' := cs_X2 J.2.2.1 a0 p_beds p_letters p_readers p_far p_drain p_length p_words p_home ++ cs_X7 J.2.2.1 a1 t_bytes t_held t_end c5 c6 c7 c8) (As := [.int 0, .int 15]) (st := []) (ci := 7) (q0 := 6) rfl rfl (t_X7_number (a0 := a1) hc) (Sub.gen [6, 7] [0, 1, 2, 3, 4, 5] [0, 1, 2, 3, 4, 5, 6, 7] rfl (by decide) rfl (by decide) (by decide) rfl (by decide)) kw_699 kw_700 kw_701 kw_87 hy_X7_number kw_702 rfl (Nat.le_of_ble_eq_true rfl) (Nat.le_of_ble_eq_true rfl) (Nat.le_of_ble_eq_true rfl) (Nat.le_of_ble_eq_true rfl) (Nat.le_of_ble_eq_true rfl) dX2_readLetter_85 ?_
    refine g_pop (pc := 88) C dX2_readLetter_88 rfl ?_
    refine g_aload_n (pc := 89) C 1 rfl dX2_readLetter_89 ?_
    refine g_iconst (pc := 90) C dX2_readLetter_90 ci_3 ?_
    obtain ⟨c9, c10, hc, h⟩ := b2_of h
    refine g_callV (pc := 91) C (w' := cs_X2 J.2.2.1 a0 p_beds p_letters p_readers p_far p_drain p_length p_words p_home ++ cs_X7 J.2.2.1 a1 t_bytes t_held t_end c5 c6 c9 c10) (As := [.int 3]) (st := []) (ci := 7) (q0 := 6) rfl rfl (t_X7_blame (a0 := a1) hc) (Sub.gen [6, 7] [0, 1, 2, 3, 4, 5] [0, 1, 2, 3, 4, 5, 6, 7] rfl (by decide) rfl (by decide) (by decide) rfl (by decide)) kw_695 kw_696 kw_697 kw_87 hy_X7_blame kw_698 rfl (Nat.le_of_ble_eq_true rfl) (Nat.le_of_ble_eq_true rfl) (Nat.le_of_ble_eq_true rfl) (Nat.le_of_ble_eq_true rfl) (Nat.le_of_ble_eq_true rfl) dX2_readLetter_91 ?_
    refine g_lv [0, 2] rfl ?_
    exact j_X2_readLetter_94 C E    x2 p_letters p_drain p_length p_words c5 c6 c9 c10 h
set_option maxRecDepth 100000 in
set_option maxHeartbeats 4000000 in
theorem j_X2_readLetter_37 {J : Jt} {Z : Zt} {a0 : Nat → Nat} {a1 : Nat → Nat} {p_beds : Int32} {p_readers : Int32} {p_far : Nat → Int32} {p_home : Nat → Int32} {t_bytes : Nat → Int32} {t_held : Int32} {t_end : Int32} {o_p_letters : Int32} {o_p_drain : Nat → Int32} {o_p_length : Nat → Int32} {o_p_words : Nat → Int32} {o_t_at : Int32} {o_t_start : Int32} {o_t_faultKind : Int32} {o_t_faultPlace : Int32} (C : Cx J Z cX2_readLetter 3 RX2 none rm_X2_readLetter) (E : Ez J Z 0 0 none (cs_X2 J.2.2.1 a0 p_beds o_p_letters p_readers p_far o_p_drain o_p_length o_p_words p_home ++ cs_X7 J.2.2.1 a1 t_bytes t_held t_end o_t_at o_t_start o_t_faultKind o_t_faultPlace)) : ∀ (n : Nat) (x2 : Int32) (p_letters : Int32) (p_drain : Nat → Int32) (p_length : Nat → Int32) (p_words : Nat → Int32) (t_at : Int32) (t_start : Int32) (t_faultKind : Int32) (t_faultPlace : Int32), f_X2_readLetter_37 p_beds t_bytes t_end n x2 p_letters p_drain p_length p_words t_at t_start t_faultKind t_faultPlace = some (o_p_letters, o_p_drain, o_p_length, o_p_words, o_t_at, o_t_start, o_t_faultKind, o_t_faultPlace) → G J Z 0 0 (cs_X2 J.2.2.1 a0 p_beds p_letters p_readers p_far p_drain p_length p_words p_home ++ cs_X7 J.2.2.1 a1 t_bytes t_held t_end t_at t_start t_faultKind t_faultPlace) 3 [(0, .ref (a0 0)), (1, .ref (a1 0)), (2, .int x2)] 37 [] := by
  intro n
  induction n with
  | zero =>
    intro x2 p_letters p_drain p_length p_words t_at t_start t_faultKind t_faultPlace h
    rw [f_X2_readLetter_37] at h
    cases h
  | succ n ih =>
    intro x2 p_letters p_drain p_length p_words t_at t_start t_faultKind t_faultPlace h
    rw [f_X2_readLetter_37] at h
    refine g_aload_n (pc := 37) C 0 rfl dX2_readLetter_37 ?_
    refine g_get (pc := 38) C FOK_X2 0 rfl rfl 6 (by decide) kw_301 rfl dX2_readLetter_38 ?_
    refine g_aload_n (pc := 41) C 0 rfl dX2_readLetter_41 ?_
    refine g_get (pc := 42) C FOK_X2 0 rfl rfl 1 (by decide) kw_281 rfl dX2_readLetter_42 ?_
    refine g_bipush (pc := 45) C dX2_readLetter_45 cb_8 ?_
    refine g_imul (pc := 47) C dX2_readLetter_47 ?_
    refine g_iload_n (pc := 48) C 2 rfl dX2_readLetter_48 ?_
    refine g_iadd (pc := 49) C dX2_readLetter_49 ?_
    refine g_aload_n (pc := 50) C 1 rfl dX2_readLetter_50 ?_
    refine g_iconst (pc := 51) C dX2_readLetter_51 ci_0 ?_
    refine g_bipush (pc := 52) C dX2_readLetter_52 cb_15 ?_
    obtain ⟨v11, c12, c13, c14, c15, hc, h⟩ := b5_of h
    refine g_callV (pc := 54) C (w' := cs_X2 J.2.2.1 a0 p_beds p_letters p_readers p_far p_drain p_length p_words p_home ++ cs_X7 J.2.2.1 a1 t_bytes t_held t_end c12 c13 c14 c15) (As := [.int 0, .int 15]) (st := [.int ((p_letters * 8) + x2), .ref (a0 4)]) (ci := 7) (q0 := 6) rfl rfl (t_X7_number (a0 := a1) hc) (Sub.gen [6, 7] [0, 1, 2, 3, 4, 5] [0, 1, 2, 3, 4, 5, 6, 7] rfl (by decide) rfl (by decide) (by decide) rfl (by decide)) kw_699 kw_700 kw_701 kw_87 hy_X7_number kw_702 rfl (Nat.le_of_ble_eq_true rfl) (Nat.le_of_ble_eq_true rfl) (Nat.le_of_ble_eq_true rfl) (Nat.le_of_ble_eq_true rfl) (Nat.le_of_ble_eq_true rfl) dX2_readLetter_54 ?_
    obtain ⟨hi, h⟩ := ix_of h
    refine g_iast (pc := 57) C (w' := cs_X2 J.2.2.1 a0 p_beds p_letters p_readers p_far p_drain p_length (upd p_words ((p_letters * 8) + x2).toNatClampNeg v11) p_home ++ cs_X7 J.2.2.1 a1 t_bytes t_held t_end c12 c13 c14 c15) 4 rfl hi dX2_readLetter_57 rfl ?_
    refine g_iinc (pc := 58) C (j := 2) [(2, .int (x2 + 1)), (0, .ref (a0 0)), (1, .ref (a1 0))] dX2_readLetter_58 rfl (ii_1 _) (by decide) rfl ?_
    refine g_iload_n (pc := 61) C 0 rfl dX2_readLetter_61 ?_
    refine g_bipush (pc := 62) C dX2_readLetter_62 cb_8 ?_
    refine g_icmp_ge (pc := 64) C (tgt := 74) dX2_readLetter_64 rfl h (fun h => ?_) (fun h => ?_)
    · refine g_lv [1, 2, 0] rfl ?_
      exact j_X2_readLetter_74 C E    (x2 + 1) p_letters p_drain p_length (upd p_words ((p_letters * 8) + x2).toNatClampNeg v11) c12 c13 c14 c15 h
    · refine g_aload_n (pc := 67) C 2 rfl dX2_readLetter_67 ?_
      obtain ⟨v16, c17, c18, hc, h⟩ := b3_of h
      refine g_callV (pc := 68) C (w' := cs_X2 J.2.2.1 a0 p_beds p_letters p_readers p_far p_drain p_length (upd p_words ((p_letters * 8) + x2).toNatClampNeg v11) p_home ++ cs_X7 J.2.2.1 a1 t_bytes t_held t_end c17 c18 c14 c15) (As := []) (st := []) (ci := 7) (q0 := 6) rfl rfl (t_X7_isAtNumber (a0 := a1) hc) (Sub.gen [6, 7] [0, 1, 2, 3, 4, 5] [0, 1, 2, 3, 4, 5, 6, 7] rfl (by decide) rfl (by decide) (by decide) rfl (by decide)) kw_713 kw_714 kw_715 kw_87 hy_X7_isAtNumber kw_716 rfl (Nat.le_of_ble_eq_true rfl) (Nat.le_of_ble_eq_true rfl) (Nat.le_of_ble_eq_true rfl) (Nat.le_of_ble_eq_true rfl) (Nat.le_of_ble_eq_true rfl) dX2_readLetter_68 ?_
      refine g_if_ne (pc := 71) C (tgt := 37) dX2_readLetter_71 rfl h (fun h => ?_) (fun h => ?_)
      · refine g_lv [1, 2, 0] rfl ?_
        exact ih (x2 + 1) p_letters p_drain p_length (upd p_words ((p_letters * 8) + x2).toNatClampNeg v11) c17 c18 c14 c15 h
      · refine g_lv [1, 2, 0] rfl ?_
        exact j_X2_readLetter_74 C E    (x2 + 1) p_letters p_drain p_length (upd p_words ((p_letters * 8) + x2).toNatClampNeg v11) c17 c18 c14 c15 h
set_option maxRecDepth 100000 in
set_option maxHeartbeats 4000000 in
theorem t_X2_readLetter {J : Jt} {a0 : Nat → Nat} {a1 : Nat → Nat} {p_beds : Int32} {p_letters : Int32} {p_readers : Int32} {p_far : Nat → Int32} {p_drain : Nat → Int32} {p_length : Nat → Int32} {p_words : Nat → Int32} {p_home : Nat → Int32} {t_bytes : Nat → Int32} {t_held : Int32} {t_end : Int32} {t_at : Int32} {t_start : Int32} {t_faultKind : Int32} {t_faultPlace : Int32} {o_p_letters : Int32} {o_p_drain : Nat → Int32} {o_p_length : Nat → Int32} {o_p_words : Nat → Int32} {o_t_at : Int32} {o_t_start : Int32} {o_t_faultKind : Int32} {o_t_faultPlace : Int32} (h : f_X2_readLetter p_beds p_letters p_drain p_length p_words t_bytes t_end t_at t_start t_faultKind t_faultPlace = some (o_p_letters, o_p_drain, o_p_length, o_p_words, o_t_at, o_t_start, o_t_faultKind, o_t_faultPlace)) : Mt J yX2_readLetter cX2_readLetter 3 none rm_X2_readLetter [.ref (a0 0), .ref (a1 0)] (cs_X2 J.2.2.1 a0 p_beds p_letters p_readers p_far p_drain p_length p_words p_home ++ cs_X7 J.2.2.1 a1 t_bytes t_held t_end t_at t_start t_faultKind t_faultPlace) none (cs_X2 J.2.2.1 a0 p_beds o_p_letters p_readers p_far o_p_drain o_p_length o_p_words p_home ++ cs_X7 J.2.2.1 a1 t_bytes t_held t_end o_t_at o_t_start o_t_faultKind o_t_faultPlace) := by
  refine Mt_of (own := RX2) (by decide) rfl (Nat.le_of_ble_eq_true rfl) rfl (fun Z C E => ?_)
  unfold f_X2_readLetter at h
  show G J Z 0 0 (cs_X2 J.2.2.1 a0 p_beds p_letters p_readers p_far p_drain p_length p_words p_home ++ cs_X7 J.2.2.1 a1 t_bytes t_held t_end t_at t_start t_faultKind t_faultPlace) 3 [(0, .ref (a0 0)), (1, .ref (a1 0))] 0 []
  refine g_aload_n (pc := 0) C 0 rfl dX2_readLetter_0 ?_
  refine g_get (pc := 1) C FOK_X2 0 rfl rfl 1 (by decide) kw_281 rfl dX2_readLetter_1 ?_
  refine g_bipush (pc := 4) C dX2_readLetter_4 cb_6 ?_
  refine g_icmp_lt (pc := 6) C (tgt := 15) dX2_readLetter_6 rfl h (fun h => ?_) (fun h => ?_)
  · refine g_aload_n (pc := 15) C 0 rfl dX2_readLetter_15 ?_
    refine g_get (pc := 16) C FOK_X2 0 rfl rfl 4 (by decide) kw_294 rfl dX2_readLetter_16 ?_
    refine g_aload_n (pc := 19) C 0 rfl dX2_readLetter_19 ?_
    refine g_get (pc := 20) C FOK_X2 0 rfl rfl 1 (by decide) kw_281 rfl dX2_readLetter_20 ?_
    refine g_aload_n (pc := 23) C 1 rfl dX2_readLetter_23 ?_
    refine g_iconst (pc := 24) C dX2_readLetter_24 ci_0 ?_
    refine g_aload_n (pc := 25) C 0 rfl dX2_readLetter_25 ?_
    refine g_get (pc := 26) C FOK_X2 0 rfl rfl 0 (by decide) kw_275 rfl dX2_readLetter_26 ?_
    refine g_iconst (pc := 29) C dX2_readLetter_29 ci_1 ?_
    refine g_isub (pc := 30) C dX2_readLetter_30 ?_
    obtain ⟨v19, c20, c21, c22, c23, hc, h⟩ := b5_of h
    refine g_callV (pc := 31) C (w' := cs_X2 J.2.2.1 a0 p_beds p_letters p_readers p_far p_drain p_length p_words p_home ++ cs_X7 J.2.2.1 a1 t_bytes t_held t_end c20 c21 c22 c23) (As := [.int 0, .int (p_beds - 1)]) (st := [.int p_letters, .ref (a0 2)]) (ci := 7) (q0 := 6) rfl rfl (t_X7_number (a0 := a1) hc) (Sub.gen [6, 7] [0, 1, 2, 3, 4, 5] [0, 1, 2, 3, 4, 5, 6, 7] rfl (by decide) rfl (by decide) (by decide) rfl (by decide)) kw_699 kw_700 kw_701 kw_87 hy_X7_number kw_702 rfl (Nat.le_of_ble_eq_true rfl) (Nat.le_of_ble_eq_true rfl) (Nat.le_of_ble_eq_true rfl) (Nat.le_of_ble_eq_true rfl) (Nat.le_of_ble_eq_true rfl) dX2_readLetter_31 ?_
    obtain ⟨hi, h⟩ := ix_of h
    refine g_iast (pc := 34) C (w' := cs_X2 J.2.2.1 a0 p_beds p_letters p_readers p_far (upd p_drain p_letters.toNatClampNeg v19) p_length p_words p_home ++ cs_X7 J.2.2.1 a1 t_bytes t_held t_end c20 c21 c22 c23) 2 rfl hi dX2_readLetter_34 rfl ?_
    refine g_iconst (pc := 35) C dX2_readLetter_35 ci_0 ?_
    refine g_istore_n (pc := 36) C [(2, .int 0), (0, .ref (a0 0)), (1, .ref (a1 0))] dX2_readLetter_36 rfl (by decide) rfl ?_
    refine g_lv [1, 2, 0] rfl ?_
    exact j_X2_readLetter_37 C E    FU 0 p_letters (upd p_drain p_letters.toNatClampNeg v19) p_length p_words c20 c21 c22 c23 h
  · refine g_aload_n (pc := 9) C 1 rfl dX2_readLetter_9 ?_
    refine g_iconst (pc := 10) C dX2_readLetter_10 ci_3 ?_
    obtain ⟨c24, c25, hc, h⟩ := b2_of h
    refine g_callV (pc := 11) C (w' := cs_X2 J.2.2.1 a0 p_beds p_letters p_readers p_far p_drain p_length p_words p_home ++ cs_X7 J.2.2.1 a1 t_bytes t_held t_end t_at t_start c24 c25) (As := [.int 3]) (st := []) (ci := 7) (q0 := 6) rfl rfl (t_X7_blame (a0 := a1) hc) (Sub.gen [6, 7] [0, 1, 2, 3, 4, 5] [0, 1, 2, 3, 4, 5, 6, 7] rfl (by decide) rfl (by decide) (by decide) rfl (by decide)) kw_695 kw_696 kw_697 kw_87 hy_X7_blame kw_698 rfl (Nat.le_of_ble_eq_true rfl) (Nat.le_of_ble_eq_true rfl) (Nat.le_of_ble_eq_true rfl) (Nat.le_of_ble_eq_true rfl) (Nat.le_of_ble_eq_true rfl) dX2_readLetter_11 ?_
    cases h
    exact g_vret C E dX2_readLetter_14
