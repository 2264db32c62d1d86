noncomputable def f_X9_getting  (n1 : Int32) (n2 : Int32) (n3 : Int32) (n4 : Int32) : Option (Int32) := if n1 = 0 then if n2 = 0 then some (-n4) else some 0 else if n2 = 0 then some n3 else some (n3 - n4)
def rm_X9_getting : Room := { frames := 0, cells := 0, slots := 0, locals := 0 }
set_option maxRecDepth 100000 in
set_option maxHeartbeats 4000000 in
theorem t_X9_getting {J : Jt}  {n1 : Int32} {n2 : Int32} {n3 : Int32} {n4 : Int32} {r : Int32} (h : f_X9_getting n1 n2 n3 n4 = some r) : Mt J yX9_getting cX9_getting 4 (some .int) rm_X9_getting [.int n1, .int n2, .int n3, .int n4] ([]) (some (.int r)) ([]) := by
  refine Mt_of (own := RX9) (by decide) rfl (Nat.le_of_ble_eq_true rfl) rfl (fun Z C E => ?_)
  unfold f_X9_getting at h
  show G J Z 0 0 ([]) 4 [(0, .int n1), (1, .int n2), (2, .int n3), (3, .int n4)] 0 []
  refine g_iload_n (pc := 0) C 0 rfl dX9_getting_0 ?_
  refine g_if_ne (pc := 1) C (tgt := 15) dX9_getting_1 rfl h (fun h => ?_) (fun h => ?_)
  · refine g_iload_n (pc := 15) C 1 rfl dX9_getting_15 ?_
    refine g_if_ne (pc := 16) C (tgt := 23) dX9_getting_16 rfl h (fun h => ?_) (fun h => ?_)
    · refine g_iload_n (pc := 23) C 2 rfl dX9_getting_23 ?_
      refine g_iload_n (pc := 24) C 3 rfl dX9_getting_24 ?_
      refine g_isub (pc := 25) C dX9_getting_25 ?_
      cases h
      exact g_iret C E dX9_getting_26
    · refine g_iload_n (pc := 19) C 2 rfl dX9_getting_19 ?_
      refine g_goto (pc := 20) C (tgt := 26) dX9_getting_20 rfl ?_
      cases h
      exact g_iret C E dX9_getting_26
  · refine g_iload_n (pc := 4) C 1 rfl dX9_getting_4 ?_
    refine g_if_ne (pc := 5) C (tgt := 13) dX9_getting_5 rfl h (fun h => ?_) (fun h => ?_)
    · refine g_iconst (pc := 13) C dX9_getting_13 ci_0 ?_
      cases h
      exact g_iret C E dX9_getting_14
    · refine g_iload_n (pc := 8) C 3 rfl dX9_getting_8 ?_
      refine g_ineg (pc := 9) C dX9_getting_9 ?_
      refine g_goto (pc := 10) C (tgt := 14) dX9_getting_10 rfl ?_
      cases h
      exact g_iret C E dX9_getting_14
noncomputable def f_X9_isContent  (n1 : Int32) (n2 : Int32) (n3 : Int32) (n4 : Int32) : Option (Int32) := b1 (f_X9_getting n1 n2 n3 n4) (fun v1 => b1 (f_X9_getting (1 - n1) n2 n3 n4) (fun v2 => if v1 < v2 then some 0 else some 1))
def rm_X9_isContent : Room := { frames := 1, cells := 0, slots := 0, locals := 23 }
set_option maxRecDepth 100000 in
set_option maxHeartbeats 4000000 in
theorem t_X9_isContent {J : Jt}  {n1 : Int32} {n2 : Int32} {n3 : Int32} {n4 : Int32} {r : Int32} (h : f_X9_isContent n1 n2 n3 n4 = some r) : Mt J yX9_isContent cX9_isContent 4 (some .boolean) rm_X9_isContent [.int n1, .int n2, .int n3, .int n4] ([]) (some (.int r)) ([]) := by
  refine Mt_of (own := RX9) (by decide) rfl (Nat.le_of_ble_eq_true rfl) rfl (fun Z C E => ?_)
  unfold f_X9_isContent at h
  show G J Z 0 0 ([]) 4 [(0, .int n1), (1, .int n2), (2, .int n3), (3, .int n4)] 0 []
  refine g_iload_n (pc := 0) C 0 rfl dX9_isContent_0 ?_
  refine g_iload_n (pc := 1) C 1 rfl dX9_isContent_1 ?_
  refine g_iload_n (pc := 2) C 2 rfl dX9_isContent_2 ?_
  refine g_iload_n (pc := 3) C 3 rfl dX9_isContent_3 ?_
  obtain ⟨v1, hc, h⟩ := b1_of h
  refine g_callS (pc := 4) C (w' := []) (As := [.int n1, .int n2, .int n3, .int n4]) (st := []) (t_X9_getting hc) Sub.same kw_1145 kw_1146 kw_86 hy_X9_getting kw_1147 rfl (Nat.le_of_ble_eq_true rfl) (Nat.le_of_ble_eq_true rfl) (Nat.le_of_ble_eq_true rfl) (Nat.le_of_ble_eq_true rfl) (Nat.le_of_ble_eq_true rfl) dX9_isContent_4 ?_
  refine g_iconst (pc := 7) C dX9_isContent_7 ci_1 ?_
  refine g_iload_n (pc := 8) C 0 rfl dX9_isContent_8 ?_
  refine g_isub (pc := 9) C dX9_isContent_9 ?_
  refine g_iload_n (pc := 10) C 1 rfl dX9_isContent_10 ?_
  refine g_iload_n (pc := 11) C 2 rfl dX9_isContent_11 ?_
  refine g_iload_n (pc := 12) C 3 rfl dX9_isContent_12 ?_
  obtain ⟨v2, hc, h⟩ := b1_of h
  refine g_callS (pc := 13) C (w' := []) (As := [.int (1 - n1), .int n2, .int n3, .int n4]) (st := [.int v1]) (t_X9_getting hc) Sub.same kw_1145 kw_1146 kw_86 hy_X9_getting kw_1147 rfl (Nat.le_of_ble_eq_true rfl) (Nat.le_of_ble_eq_true rfl) (Nat.le_of_ble_eq_true rfl) (Nat.le_of_ble_eq_true rfl) (Nat.le_of_ble_eq_true rfl) dX9_isContent_13 ?_
  refine g_icmp_lt (pc := 16) C (tgt := 23) dX9_isContent_16 rfl h (fun h => ?_) (fun h => ?_)
  · refine g_iconst (pc := 23) C dX9_isContent_23 ci_0 ?_
    cases h
    exact g_zret C rfl E dX9_isContent_24
  · refine g_iconst (pc := 19) C dX9_isContent_19 ci_1 ?_
    refine g_goto (pc := 20) C (tgt := 24) dX9_isContent_20 rfl ?_
    cases h
    exact g_zret C rfl E dX9_isContent_24
noncomputable def f_X9_she_44   (n1 : Int32) (n2 : Int32) (n3 : Int32) (k35 : Int32 → Int32 → Int32 → Int32 → Int32 → Option (Nat × Int32 × Int32)) : Nat → Int32 → Int32 → Int32 → Int32 → Int32 → Int32 → Option (Nat × Int32 × Int32)
  | 0, _, _, _, _, _, _ => none
  | n + 1, x4, x5, x6, x7, x8, x_misused => if 1 < x8 then k35 x4 x5 x6 (x7 + 1) x_misused else b1 (f_X9_isContent x7 x8 n1 n2) (fun v1 => if v1 = 0 then f_X9_she_44 n1 n2 n3 k35 n x4 x5 x6 x7 (x8 + 1) x_misused else b1 (f_X9_isContent x8 x7 n1 n2) (fun v2 => if v2 = 0 then f_X9_she_44 n1 n2 n3 k35 n x4 x5 x6 x7 (x8 + 1) x_misused else if x5 = (-1) then b1 (f_X9_getting x7 x8 n1 n2) (fun v3 => b1 (f_X9_getting x8 x7 n1 n2) (fun v4 => f_X9_she_44 n1 n2 n3 k35 n (x4 + 1) ((10 * x7) + x8) (v3 + v4) x7 (x8 + 1) x_misused)) else f_X9_she_44 n1 n2 n3 k35 n (x4 + 1) x5 x6 x7 (x8 + 1) x_misused))
noncomputable def f_X9_she_35   (n1 : Int32) (n2 : Int32) (n3 : Int32) : Nat → Int32 → Int32 → Int32 → Int32 → Int32 → Option (Nat × Int32 × Int32)
  | 0, _, _, _, _, _ => none
  | n + 1, x4, x5, x6, x7, x_misused => if 1 < x7 then if n3 = 0 then some (0, x4, x_misused) else if n3 = 1 then some (0, x5, x_misused) else some (0, x6, x_misused) else f_X9_she_44 n1 n2 n3 (f_X9_she_35 n1 n2 n3 n) FU x4 x5 x6 x7 0 x_misused
noncomputable def f_X9_she (x_misused : Int32) (n1 : Int32) (n2 : Int32) (n3 : Int32) : Option (Nat × Int32 × Int32) := b2 (f_X9_needRange x_misused n1 0 99) (fun e5 c6 => if e5 = 0 then b2 (f_X9_needRange c6 n2 0 99) (fun e7 c8 => if e7 = 0 then b2 (f_X9_needRange c8 n3 0 2) (fun e9 c10 => if e9 = 0 then f_X9_she_35 n1 n2 n3 FU 0 (-1) 0 0 c10 else some (e9, 0, c10)) else some (e7, 0, c8)) else some (e5, 0, c6))
def rm_X9_she : Room := { frames := 10, cells := 3, slots := 18, locals := 143 }
set_option maxRecDepth 100000 in
set_option maxHeartbeats 4000000 in
theorem j_X9_she_44 {J : Jt} {Z : Zt} {a0 : Nat → Nat} {k_tape : Nat} {k_now : Nat} {k_trial : Nat} {k_task : Nat} {k_season : Nat} {k_stuffing : Nat} {k_images : Nat} {k_row : Nat} {k_plan : Nat} {k_sparePlan : Nat} {k_rule : Nat} {k_spareRule : Nat} {k_notes : Nat} {k_spareNotes : Nat} {x_latest : Value} {x_imageMany : Int32} {x_refusedSteps : Int32} {x_missing : Int32} {n1 : Int32} {n2 : Int32} {n3 : Int32} {ex : Nat} {r : Int32} {o_x_misused : Int32} {k35 : Int32 → Int32 → Int32 → Int32 → Int32 → Option (Nat × Int32 × Int32)} (C : Cx J Z cX9_she 9 RX9 (some .int) rm_X9_she) (hJ : J.1.stackTraces = false) (E : EzX J Z 3 18 ex (some (.int r)) (fun _ : Unit => cs_X9 (a0 0) k_tape k_now k_trial k_task k_season k_stuffing k_images k_row k_plan k_sparePlan k_rule k_spareRule k_notes k_spareNotes x_latest x_imageMany x_refusedSteps x_missing o_x_misused)) (hk35 : ∀ (x4 : Int32) (x5 : Int32) (x6 : Int32) (x7 : Int32) (x_misused : Int32), k35 x4 x5 x6 x7 x_misused = some (ex, r, o_x_misused) → G J Z 3 18 (cs_X9 (a0 0) k_tape k_now k_trial k_task k_season k_stuffing k_images k_row k_plan k_sparePlan k_rule k_spareRule k_notes k_spareNotes x_latest x_imageMany x_refusedSteps x_missing x_misused) 9 [(1, .int n1), (2, .int n2), (3, .int n3), (4, .int x4), (5, .int x5), (6, .int x6), (7, .int x7)] 35 []) : ∀ (n : Nat) (x4 : Int32) (x5 : Int32) (x6 : Int32) (x7 : Int32) (x8 : Int32) (x_misused : Int32), f_X9_she_44 n1 n2 n3 k35 n x4 x5 x6 x7 x8 x_misused = some (ex, r, o_x_misused) → G J Z 3 18 (cs_X9 (a0 0) k_tape k_now k_trial k_task k_season k_stuffing k_images k_row k_plan k_sparePlan k_rule k_spareRule k_notes k_spareNotes x_latest x_imageMany x_refusedSteps x_missing x_misused) 9 [(1, .int n1), (2, .int n2), (3, .int n3), (4, .int x4), (5, .int x5), (6, .int x6), (7, .int x7), (8, .int x8)] 44 [] := by
  intro n
  induction n with
  | zero =>
    intro x4 x5 x6 x7 x8 x_misused h
    rw [f_X9_she_44] at h
    cases h
  | succ n ih =>
    intro x4 x5 x6 x7 x8 x_misused h
    rw [f_X9_she_44] at h
    refine g_iload (pc := 44) C 7 rfl dX9_she_44 ?_
    refine g_iconst (pc := 46) C dX9_she_46 ci_1 ?_
    refine g_icmp_gt (pc := 47) C (tgt := 120) dX9_she_47 rfl h (fun h => ?_) (fun h => ?_)
    · refine g_iinc (pc := 120) C (j := 6) [(7, .int (x7 + 1)), (1, .int n1), (2, .int n2), (3, .int n3), (4, .int x4), (5, .int x5), (6, .int x6), (8, .int x8)] dX9_she_120 rfl (ii_1 _) (by decide) rfl ?_
      refine g_goto (pc := 123) C (tgt := 35) dX9_she_123 rfl ?_
      refine g_lv [1, 2, 3, 4, 5, 6, 0] rfl ?_
      exact hk35 x4 x5 x6 (x7 + 1) x_misused h
    · refine g_iload (pc := 50) C 6 rfl dX9_she_50 ?_
      refine g_iload (pc := 52) C 7 rfl dX9_she_52 ?_
      refine g_iload_n (pc := 54) C 0 rfl dX9_she_54 ?_
      refine g_iload_n (pc := 55) C 1 rfl dX9_she_55 ?_
      obtain ⟨v1, hc, h⟩ := b1_of h
      refine g_callS (pc := 56) C (w' := cs_X9 (a0 0) k_tape k_now k_trial k_task k_season k_stuffing k_images k_row k_plan k_sparePlan k_rule k_spareRule k_notes k_spareNotes x_latest x_imageMany x_refusedSteps x_missing x_misused) (As := [.int x7, .int x8, .int n1, .int n2]) (st := []) (t_X9_isContent hc) Sub.nil kw_1142 kw_1143 kw_86 hy_X9_isContent kw_1144 rfl (Nat.le_of_ble_eq_true rfl) (Nat.le_of_ble_eq_true rfl) (Nat.le_of_ble_eq_true rfl) (Nat.le_of_ble_eq_true rfl) (Nat.le_of_ble_eq_true rfl) dX9_she_56 ?_
      refine g_if_eq (pc := 59) C (tgt := 114) dX9_she_59 rfl h (fun h => ?_) (fun h => ?_)
      · refine g_iinc (pc := 114) C (j := 7) [(8, .int (x8 + 1)), (1, .int n1), (2, .int n2), (3, .int n3), (4, .int x4), (5, .int x5), (6, .int x6), (7, .int x7)] dX9_she_114 rfl (ii_1 _) (by decide) rfl ?_
        refine g_goto (pc := 117) C (tgt := 44) dX9_she_117 rfl ?_
        refine g_lv [1, 2, 3, 4, 5, 6, 7, 0] rfl ?_
        exact ih x4 x5 x6 x7 (x8 + 1) x_misused h
      · refine g_iload (pc := 62) C 7 rfl dX9_she_62 ?_
        refine g_iload (pc := 64) C 6 rfl dX9_she_64 ?_
        refine g_iload_n (pc := 66) C 0 rfl dX9_she_66 ?_
        refine g_iload_n (pc := 67) C 1 rfl dX9_she_67 ?_
        obtain ⟨v2, hc, h⟩ := b1_of h
        refine g_callS (pc := 68) C (w' := cs_X9 (a0 0) k_tape k_now k_trial k_task k_season k_stuffing k_images k_row k_plan k_sparePlan k_rule k_spareRule k_notes k_spareNotes x_latest x_imageMany x_refusedSteps x_missing x_misused) (As := [.int x8, .int x7, .int n1, .int n2]) (st := []) (t_X9_isContent hc) Sub.nil kw_1142 kw_1143 kw_86 hy_X9_isContent kw_1144 rfl (Nat.le_of_ble_eq_true rfl) (Nat.le_of_ble_eq_true rfl) (Nat.le_of_ble_eq_true rfl) (Nat.le_of_ble_eq_true rfl) (Nat.le_of_ble_eq_true rfl) dX9_she_68 ?_
        refine g_if_eq (pc := 71) C (tgt := 114) dX9_she_71 rfl h (fun h => ?_) (fun h => ?_)
        · refine g_iinc (pc := 114) C (j := 7) [(8, .int (x8 + 1)), (1, .int n1), (2, .int n2), (3, .int n3), (4, .int x4), (5, .int x5), (6, .int x6), (7, .int x7)] dX9_she_114 rfl (ii_1 _) (by decide) rfl ?_
          refine g_goto (pc := 117) C (tgt := 44) dX9_she_117 rfl ?_
          refine g_lv [1, 2, 3, 4, 5, 6, 7, 0] rfl ?_
          exact ih x4 x5 x6 x7 (x8 + 1) x_misused h
        · refine g_iinc (pc := 74) C (j := 3) [(4, .int (x4 + 1)), (1, .int n1), (2, .int n2), (3, .int n3), (5, .int x5), (6, .int x6), (7, .int x7), (8, .int x8)] dX9_she_74 rfl (ii_1 _) (by decide) rfl ?_
          refine g_iload (pc := 77) C 4 rfl dX9_she_77 ?_
          refine g_iconst (pc := 79) C dX9_she_79 ci_m1 ?_
          refine g_icmp_ne (pc := 80) C (tgt := 114) dX9_she_80 rfl h (fun h => ?_) (fun h => ?_)
          · refine g_iinc (pc := 114) C (j := 7) [(8, .int (x8 + 1)), (4, .int (x4 + 1)), (1, .int n1), (2, .int n2), (3, .int n3), (5, .int x5), (6, .int x6), (7, .int x7)] dX9_she_114 rfl (ii_1 _) (by decide) rfl ?_
            refine g_goto (pc := 117) C (tgt := 44) dX9_she_117 rfl ?_
            refine g_lv [2, 3, 4, 1, 5, 6, 7, 0] rfl ?_
            exact ih (x4 + 1) x5 x6 x7 (x8 + 1) x_misused h
          · refine g_bipush (pc := 83) C dX9_she_83 cb_10 ?_
            refine g_iload (pc := 85) C 6 rfl dX9_she_85 ?_
            refine g_imul (pc := 87) C dX9_she_87 ?_
            refine g_iload (pc := 88) C 7 rfl dX9_she_88 ?_
            refine g_iadd (pc := 90) C dX9_she_90 ?_
            refine g_istore (pc := 91) C [(5, .int ((10 * x7) + x8)), (4, .int (x4 + 1)), (1, .int n1), (2, .int n2), (3, .int n3), (6, .int x6), (7, .int x7), (8, .int x8)] dX9_she_91 (by decide) rfl ?_
            refine g_iload (pc := 93) C 6 rfl dX9_she_93 ?_
            refine g_iload (pc := 95) C 7 rfl dX9_she_95 ?_
            refine g_iload_n (pc := 97) C 2 rfl dX9_she_97 ?_
            refine g_iload_n (pc := 98) C 3 rfl dX9_she_98 ?_
            obtain ⟨v3, hc, h⟩ := b1_of h
            refine g_callS (pc := 99) C (w' := cs_X9 (a0 0) k_tape k_now k_trial k_task k_season k_stuffing k_images k_row k_plan k_sparePlan k_rule k_spareRule k_notes k_spareNotes x_latest x_imageMany x_refusedSteps x_missing x_misused) (As := [.int x7, .int x8, .int n1, .int n2]) (st := []) (t_X9_getting hc) Sub.nil kw_1145 kw_1146 kw_86 hy_X9_getting kw_1147 rfl (Nat.le_of_ble_eq_true rfl) (Nat.le_of_ble_eq_true rfl) (Nat.le_of_ble_eq_true rfl) (Nat.le_of_ble_eq_true rfl) (Nat.le_of_ble_eq_true rfl) dX9_she_99 ?_
            refine g_iload (pc := 102) C 7 rfl dX9_she_102 ?_
            refine g_iload (pc := 104) C 6 rfl dX9_she_104 ?_
            refine g_iload_n (pc := 106) C 2 rfl dX9_she_106 ?_
            refine g_iload_n (pc := 107) C 3 rfl dX9_she_107 ?_
            obtain ⟨v4, hc, h⟩ := b1_of h
            refine g_callS (pc := 108) C (w' := cs_X9 (a0 0) k_tape k_now k_trial k_task k_season k_stuffing k_images k_row k_plan k_sparePlan k_rule k_spareRule k_notes k_spareNotes x_latest x_imageMany x_refusedSteps x_missing x_misused) (As := [.int x8, .int x7, .int n1, .int n2]) (st := [.int v3]) (t_X9_getting hc) Sub.nil kw_1145 kw_1146 kw_86 hy_X9_getting kw_1147 rfl (Nat.le_of_ble_eq_true rfl) (Nat.le_of_ble_eq_true rfl) (Nat.le_of_ble_eq_true rfl) (Nat.le_of_ble_eq_true rfl) (Nat.le_of_ble_eq_true rfl) dX9_she_108 ?_
            refine g_iadd (pc := 111) C dX9_she_111 ?_
            refine g_istore (pc := 112) C [(6, .int (v3 + v4)), (5, .int ((10 * x7) + x8)), (4, .int (x4 + 1)), (1, .int n1), (2, .int n2), (3, .int n3), (7, .int x7), (8, .int x8)] dX9_she_112 (by decide) rfl ?_
            refine g_iinc (pc := 114) C (j := 7) [(8, .int (x8 + 1)), (6, .int (v3 + v4)), (5, .int ((10 * x7) + x8)), (4, .int (x4 + 1)), (1, .int n1), (2, .int n2), (3, .int n3), (7, .int x7)] dX9_she_114 rfl (ii_1 _) (by decide) rfl ?_
            refine g_goto (pc := 117) C (tgt := 44) dX9_she_117 rfl ?_
            refine g_lv [4, 5, 6, 3, 2, 1, 7, 0] rfl ?_
            exact ih (x4 + 1) ((10 * x7) + x8) (v3 + v4) x7 (x8 + 1) x_misused h
set_option maxRecDepth 100000 in
set_option maxHeartbeats 4000000 in
theorem j_X9_she_35 {J : Jt} {Z : Zt} {a0 : Nat → Nat} {k_tape : Nat} {k_now : Nat} {k_trial : Nat} {k_task : Nat} {k_season : Nat} {k_stuffing : Nat} {k_images : Nat} {k_row : Nat} {k_plan : Nat} {k_sparePlan : Nat} {k_rule : Nat} {k_spareRule : Nat} {k_notes : Nat} {k_spareNotes : Nat} {x_latest : Value} {x_imageMany : Int32} {x_refusedSteps : Int32} {x_missing : Int32} {n1 : Int32} {n2 : Int32} {n3 : Int32} {ex : Nat} {r : Int32} {o_x_misused : Int32} (C : Cx J Z cX9_she 9 RX9 (some .int) rm_X9_she) (hJ : J.1.stackTraces = false) (E : EzX J Z 3 18 ex (some (.int r)) (fun _ : Unit => cs_X9 (a0 0) k_tape k_now k_trial k_task k_season k_stuffing k_images k_row k_plan k_sparePlan k_rule k_spareRule k_notes k_spareNotes x_latest x_imageMany x_refusedSteps x_missing o_x_misused)) : ∀ (n : Nat) (x4 : Int32) (x5 : Int32) (x6 : Int32) (x7 : Int32) (x_misused : Int32), f_X9_she_35 n1 n2 n3 n x4 x5 x6 x7 x_misused = some (ex, r, o_x_misused) → G J Z 3 18 (cs_X9 (a0 0) k_tape k_now k_trial k_task k_season k_stuffing k_images k_row k_plan k_sparePlan k_rule k_spareRule k_notes k_spareNotes x_latest x_imageMany x_refusedSteps x_missing x_misused) 9 [(1, .int n1), (2, .int n2), (3, .int n3), (4, .int x4), (5, .int x5), (6, .int x6), (7, .int x7)] 35 [] := by
  intro n
  induction n with
  | zero =>
    intro x4 x5 x6 x7 x_misused h
    rw [f_X9_she_35] at h
    cases h
  | succ n ih =>
    intro x4 x5 x6 x7 x_misused h
    rw [f_X9_she_35] at h
    refine g_iload (pc := 35) C 6 rfl dX9_she_35 ?_
    refine g_iconst (pc := 37) C dX9_she_37 ci_1 ?_
    refine g_icmp_gt (pc := 38) C (tgt := 126) dX9_she_38 rfl h (fun h => ?_) (fun h => ?_)
    · refine g_iload_n (pc := 126) C 2 rfl dX9_she_126 ?_
      rcases ite_of h with ⟨hc, h⟩ | ⟨hn0, h⟩
      · refine g_lk (pc := 127) C (tgt := 152) dX9_she_127 (by decide +kernel) (by rw [hc] <;> decide +kernel) rfl ?_
        refine g_iload (pc := 152) C 3 rfl dX9_she_152 ?_
        cases h
        exact g_iretX C E () rfl dX9_she_154
      rcases ite_of h with ⟨hc, h⟩ | ⟨hn1, h⟩
      · refine g_lk (pc := 127) C (tgt := 155) dX9_she_127 (by decide +kernel) (by rw [hc] <;> decide +kernel) rfl ?_
        refine g_iload (pc := 155) C 4 rfl dX9_she_155 ?_
        cases h
        exact g_iretX C E () rfl dX9_she_157
      have hq0 := lv_neT hn0 (a := 0) (by decide)
      have hq1 := lv_neT hn1 (a := 1) (by decide)
      refine g_lk (pc := 127) C (tgt := 158) dX9_she_127 (by decide +kernel) (lk_2 hq0 hq1) rfl ?_
      refine g_iload (pc := 158) C 5 rfl dX9_she_158 ?_
      cases h
      exact g_iretX C E () rfl dX9_she_160
    · refine g_iconst (pc := 41) C dX9_she_41 ci_0 ?_
      refine g_istore (pc := 42) C [(8, .int 0), (1, .int n1), (2, .int n2), (3, .int n3), (4, .int x4), (5, .int x5), (6, .int x6), (7, .int x7)] dX9_she_42 (by decide) rfl ?_
      refine g_lv [1, 2, 3, 4, 5, 6, 7, 0] rfl ?_
      exact j_X9_she_44 C hJ E   ih FU x4 x5 x6 x7 0 x_misused h
set_option maxRecDepth 100000 in
set_option maxHeartbeats 4000000 in
theorem t_X9_she {J : Jt} {a0 : Nat → Nat} {k_tape : Nat} {k_now : Nat} {k_trial : Nat} {k_task : Nat} {k_season : Nat} {k_stuffing : Nat} {k_images : Nat} {k_row : Nat} {k_plan : Nat} {k_sparePlan : Nat} {k_rule : Nat} {k_spareRule : Nat} {k_notes : Nat} {k_spareNotes : Nat} {x_latest : Value} {x_imageMany : Int32} {x_refusedSteps : Int32} {x_missing : Int32} {x_misused : Int32} {n1 : Int32} {n2 : Int32} {n3 : Int32} {ex : Nat} {r : Int32} {o_x_misused : Int32} (hJ : J.1.stackTraces = false) (h : f_X9_she x_misused n1 n2 n3 = some (ex, r, o_x_misused)) : MtX J yX9_she cX9_she 9 (some .int) rm_X9_she [.ref (a0 0), .int n1, .int n2, .int n3] (cs_X9 (a0 0) k_tape k_now k_trial k_task k_season k_stuffing k_images k_row k_plan k_sparePlan k_rule k_spareRule k_notes k_spareNotes x_latest x_imageMany x_refusedSteps x_missing x_misused) ex (some (.int r)) (fun _ : Unit => cs_X9 (a0 0) k_tape k_now k_trial k_task k_season k_stuffing k_images k_row k_plan k_sparePlan k_rule k_spareRule k_notes k_spareNotes x_latest x_imageMany x_refusedSteps x_missing o_x_misused) := by
  refine MtX_of (own := RX9) (by decide) rfl (Nat.le_of_ble_eq_true rfl) rfl (fun Z C E => ?_)
  unfold f_X9_she at h
  show G J Z 0 0 (cs_X9 (a0 0) k_tape k_now k_trial k_task k_season k_stuffing k_images k_row k_plan k_sparePlan k_rule k_spareRule k_notes k_spareNotes x_latest x_imageMany x_refusedSteps x_missing x_misused) 9 [(0, .ref (a0 0)), (1, .int n1), (2, .int n2), (3, .int n3)] 0 []
  refine g_aload_n (pc := 0) C 0 rfl dX9_she_0 ?_
  refine g_iload_n (pc := 1) C 1 rfl dX9_she_1 ?_
  refine g_iconst (pc := 2) C dX9_she_2 ci_0 ?_
  refine g_bipush (pc := 3) C dX9_she_3 cb_99 ?_
  obtain ⟨e5, c6, hc, h⟩ := b2_of h
  refine g_xcallU (pc := 5) C (w' := cs_X9 (a0 0) k_tape k_now k_trial k_task k_season k_stuffing k_images k_row k_plan k_sparePlan k_rule k_spareRule k_notes k_spareNotes x_latest x_imageMany x_refusedSteps x_missing c6) (As := [.int n1, .int 0, .int 99]) (st := []) (ci := 9) (q0 := 0) rfl rfl (t_X9_needRange (k_tape := k_tape) (k_now := k_now) (k_trial := k_trial) (k_task := k_task) (k_season := k_season) (k_stuffing := k_stuffing) (k_images := k_images) (k_row := k_row) (k_plan := k_plan) (k_sparePlan := k_sparePlan) (k_rule := k_rule) (k_spareRule := k_spareRule) (k_notes := k_notes) (k_spareNotes := k_spareNotes) (a0 := a0) (x_latest := x_latest) (x_imageMany := x_imageMany) (x_refusedSteps := x_refusedSteps) (x_missing := x_missing) (x_misused := x_misused) hJ hc) Sub.same kw_545 kw_547 kw_2 kw_86 hy_X9_needRange kw_548 rfl (Nat.le_of_ble_eq_true rfl) (Nat.le_of_ble_eq_true rfl) (Nat.le_of_ble_eq_true rfl) (Nat.le_of_ble_eq_true rfl) (Nat.le_of_ble_eq_true rfl) dX9_she_5 (fun he => ?_) (fun he => ?_)
  · subst he
    rw [if_pos rfl] at h
    refine g_wid (n' := 1) (k' := 6) (Nat.le_of_ble_eq_true rfl) (Nat.le_of_ble_eq_true rfl) ?_
    refine g_aload_n (pc := 8) C 0 rfl dX9_she_8 ?_
    refine g_iload_n (pc := 9) C 2 rfl dX9_she_9 ?_
    refine g_iconst (pc := 10) C dX9_she_10 ci_0 ?_
    refine g_bipush (pc := 11) C dX9_she_11 cb_99 ?_
    obtain ⟨e7, c8, hc, h⟩ := b2_of h
    refine g_xcallU (pc := 13) C (w' := cs_X9 (a0 0) k_tape k_now k_trial k_task k_season k_stuffing k_images k_row k_plan k_sparePlan k_rule k_spareRule k_notes k_spareNotes x_latest x_imageMany x_refusedSteps x_missing c8) (As := [.int n2, .int 0, .int 99]) (st := []) (ci := 9) (q0 := 0) rfl rfl (t_X9_needRange (k_tape := k_tape) (k_now := k_now) (k_trial := k_trial) (k_task := k_task) (k_season := k_season) (k_stuffing := k_stuffing) (k_images := k_images) (k_row := k_row) (k_plan := k_plan) (k_sparePlan := k_sparePlan) (k_rule := k_rule) (k_spareRule := k_spareRule) (k_notes := k_notes) (k_spareNotes := k_spareNotes) (a0 := a0) (x_latest := x_latest) (x_imageMany := x_imageMany) (x_refusedSteps := x_refusedSteps) (x_missing := x_missing) (x_misused := c6) hJ hc) Sub.same kw_545 kw_547 kw_2 kw_86 hy_X9_needRange kw_548 rfl (Nat.le_of_ble_eq_true rfl) (Nat.le_of_ble_eq_true rfl) (Nat.le_of_ble_eq_true rfl) (Nat.le_of_ble_eq_true rfl) (Nat.le_of_ble_eq_true rfl) dX9_she_13 (fun he => ?_) (fun he => ?_)
    · subst he
      rw [if_pos rfl] at h
      refine g_wid (n' := 2) (k' := 12) (Nat.le_of_ble_eq_true rfl) (Nat.le_of_ble_eq_true rfl) ?_
      refine g_aload_n (pc := 16) C 0 rfl dX9_she_16 ?_
      refine g_iload_n (pc := 17) C 3 rfl dX9_she_17 ?_
      refine g_iconst (pc := 18) C dX9_she_18 ci_0 ?_
      refine g_iconst (pc := 19) C dX9_she_19 ci_2 ?_
      obtain ⟨e9, c10, hc, h⟩ := b2_of h
      refine g_xcallU (pc := 20) C (w' := cs_X9 (a0 0) k_tape k_now k_trial k_task k_season k_stuffing k_images k_row k_plan k_sparePlan k_rule k_spareRule k_notes k_spareNotes x_latest x_imageMany x_refusedSteps x_missing c10) (As := [.int n3, .int 0, .int 2]) (st := []) (ci := 9) (q0 := 0) rfl rfl (t_X9_needRange (k_tape := k_tape) (k_now := k_now) (k_trial := k_trial) (k_task := k_task) (k_season := k_season) (k_stuffing := k_stuffing) (k_images := k_images) (k_row := k_row) (k_plan := k_plan) (k_sparePlan := k_sparePlan) (k_rule := k_rule) (k_spareRule := k_spareRule) (k_notes := k_notes) (k_spareNotes := k_spareNotes) (a0 := a0) (x_latest := x_latest) (x_imageMany := x_imageMany) (x_refusedSteps := x_refusedSteps) (x_missing := x_missing) (x_misused := c8) hJ hc) Sub.same kw_545 kw_547 kw_2 kw_86 hy_X9_needRange kw_548 rfl (Nat.le_of_ble_eq_true rfl) (Nat.le_of_ble_eq_true rfl) (Nat.le_of_ble_eq_true rfl) (Nat.le_of_ble_eq_true rfl) (Nat.le_of_ble_eq_true rfl) dX9_she_20 (fun he => ?_) (fun he => ?_)
      · subst he
        rw [if_pos rfl] at h
        refine g_wid (n' := 3) (k' := 18) (Nat.le_of_ble_eq_true rfl) (Nat.le_of_ble_eq_true rfl) ?_
        refine g_iconst (pc := 23) C dX9_she_23 ci_0 ?_
        refine g_istore (pc := 24) C [(4, .int 0), (0, .ref (a0 0)), (1, .int n1), (2, .int n2), (3, .int n3)] dX9_she_24 (by decide) rfl ?_
        refine g_iconst (pc := 26) C dX9_she_26 ci_m1 ?_
        refine g_istore (pc := 27) C [(5, .int (-1)), (4, .int 0), (0, .ref (a0 0)), (1, .int n1), (2, .int n2), (3, .int n3)] dX9_she_27 (by decide) rfl ?_
        refine g_iconst (pc := 29) C dX9_she_29 ci_0 ?_
        refine g_istore (pc := 30) C [(6, .int 0), (5, .int (-1)), (4, .int 0), (0, .ref (a0 0)), (1, .int n1), (2, .int n2), (3, .int n3)] dX9_she_30 (by decide) rfl ?_
        refine g_iconst (pc := 32) C dX9_she_32 ci_0 ?_
        refine g_istore (pc := 33) C [(7, .int 0), (6, .int 0), (5, .int (-1)), (4, .int 0), (0, .ref (a0 0)), (1, .int n1), (2, .int n2), (3, .int n3)] dX9_she_33 (by decide) rfl ?_
        refine g_lv [5, 6, 7, 3, 2, 1, 0] rfl ?_
        exact j_X9_she_35 C hJ E    FU 0 (-1) 0 0 c10 h
      · rw [if_neg he] at h
        cases h
        exact gt_out C he E (Nat.le_of_ble_eq_true rfl) (Nat.le_of_ble_eq_true rfl) () rfl
    · rw [if_neg he] at h
      cases h
      exact gt_out C he E (Nat.le_of_ble_eq_true rfl) (Nat.le_of_ble_eq_true rfl) () rfl
  · rw [if_neg he] at h
    cases h
    exact gt_out C he E (Nat.le_of_ble_eq_true rfl) (Nat.le_of_ble_eq_true rfl) () rfl
noncomputable def f_X9_givenBy_5  (s_many : Nat → Int32) (p_beds : Int32) (n1 : Int32) (n2 : Int32) : Nat → Int32 → Int32 → Option (Int32)
  | 0, _, _ => none
  | n + 1, x3, x4 => if p_beds ≤ x4 then some x3 else b1 (f_X9_has n2 x4) (fun v1 => if v1 = 0 then f_X9_givenBy_5 s_many p_beds n1 n2 n (x3 + 0) (x4 + 1) else if ixb x4 6 then f_X9_givenBy_5 s_many p_beds n1 n2 n (x3 + (imin n1 (s_many x4.toNatClampNeg))) (x4 + 1) else none)
noncomputable def f_X9_givenBy (s_many : Nat → Int32) (p_beds : Int32) (n1 : Int32) (n2 : Int32) : Option (Int32) := f_X9_givenBy_5 s_many p_beds n1 n2 FU 0 0
def rm_X9_givenBy : Room := { frames := 1, cells := 0, slots := 0, locals := 40 }
set_option maxRecDepth 100000 in
set_option maxHeartbeats 4000000 in
theorem j_X9_givenBy_5 {J : Jt} {Z : Zt} {a0 : Nat → Nat} {a1 : Nat → Nat} {a2 : Nat → Nat} {k_tape : Nat} {k_trial : Nat} {k_task : Nat} {k_season : Nat} {k_stuffing : Nat} {k_images : Nat} {k_row : Nat} {k_sparePlan : Nat} {k_rule : Nat} {k_spareRule : Nat} {k_notes : Nat} {k_spareNotes : Nat} {x_latest : Value} {x_imageMany : Int32} {x_refusedSteps : Int32} {x_missing : Int32} {x_misused : Int32} {s_year : Int32} {s_wet : Int32} {s_lost : Int32} {s_eaten : Int32} {s_tied : Int32} {s_ripeMany : Int32} {s_gone : Nat → Int32} {s_place : Nat → Int32} {s_heard : Nat → Int32} {s_many : Nat → Int32} {s_lying : Nat → Int32} {s_ripe : Nat → Int32} {p_beds : Int32} {p_letters : Int32} {p_readers : Int32} {p_far : Nat → Int32} {p_drain : Nat → Int32} {p_length : Nat → Int32} {p_words : Nat → Int32} {p_home : Nat → Int32} {n1 : Int32} {n2 : Int32} {r : Int32} (C : Cx J Z cX9_givenBy 5 RX9 (some .int) rm_X9_givenBy) (E : Ez J Z 0 0 (some (.int r)) (cs_X9 (a0 0) k_tape (a1 0) k_trial k_task k_season k_stuffing k_images k_row (a2 0) k_sparePlan k_rule k_spareRule k_notes k_spareNotes x_latest x_imageMany x_refusedSteps x_missing x_misused ++ cs_X4 J.2.2.1 a1 s_year s_wet s_lost s_eaten s_tied s_ripeMany s_gone s_place s_heard s_many s_lying s_ripe ++ cs_X2 J.2.2.1 a2 p_beds p_letters p_readers p_far p_drain p_length p_words p_home)) : ∀ (n : Nat) (x3 : Int32) (x4 : Int32), f_X9_givenBy_5 s_many p_beds n1 n2 n x3 x4 = some r → G J Z 0 0 (cs_X9 (a0 0) k_tape (a1 0) k_trial k_task k_season k_stuffing k_images k_row (a2 0) k_sparePlan k_rule k_spareRule k_notes k_spareNotes x_latest x_imageMany x_refusedSteps x_missing x_misused ++ cs_X4 J.2.2.1 a1 s_year s_wet s_lost s_eaten s_tied s_ripeMany s_gone s_place s_heard s_many s_lying s_ripe ++ cs_X2 J.2.2.1 a2 p_beds p_letters p_readers p_far p_drain p_length p_words p_home) 5 [(0, .ref (a0 0)), (1, .int n1), (2, .int n2), (3, .int x3), (4, .int x4)] 5 [] := by
  intro n
  induction n with
  | zero =>
    intro x3 x4 h
    rw [f_X9_givenBy_5] at h
    cases h
  | succ n ih =>
    intro x3 x4 h
    rw [f_X9_givenBy_5] at h
    refine g_iload (pc := 5) C 4 rfl dX9_givenBy_5 ?_
    refine g_aload_n (pc := 7) C 0 rfl dX9_givenBy_7 ?_
    refine g_get (pc := 8) C FOK_X9 0 rfl rfl 8 (by decide) kw_375 rfl dX9_givenBy_8 ?_
    refine g_get (pc := 11) C FOK_X2 8 rfl rfl 0 (by decide) kw_279 rfl dX9_givenBy_11 ?_
    refine g_icmp_ge (pc := 14) C (tgt := 53) dX9_givenBy_14 rfl h (fun h => ?_) (fun h => ?_)
    · refine g_iload_n (pc := 53) C 3 rfl dX9_givenBy_53 ?_
      cases h
      exact g_iret C E dX9_givenBy_54
    · refine g_iload_n (pc := 17) C 3 rfl dX9_givenBy_17 ?_
      refine g_iload_n (pc := 18) C 2 rfl dX9_givenBy_18 ?_
      refine g_iload (pc := 19) C 4 rfl dX9_givenBy_19 ?_
      obtain ⟨v1, hc, h⟩ := b1_of h
      refine g_callS (pc := 21) C (w' := cs_X9 (a0 0) k_tape (a1 0) k_trial k_task k_season k_stuffing k_images k_row (a2 0) k_sparePlan k_rule k_spareRule k_notes k_spareNotes x_latest x_imageMany x_refusedSteps x_missing x_misused ++ cs_X4 J.2.2.1 a1 s_year s_wet s_lost s_eaten s_tied s_ripeMany s_gone s_place s_heard s_many s_lying s_ripe ++ cs_X2 J.2.2.1 a2 p_beds p_letters p_readers p_far p_drain p_length p_words p_home) (As := [.int n2, .int x4]) (st := [.int x3]) (t_X9_has hc) Sub.nil kw_1056 kw_483 kw_86 hy_X9_has kw_484 rfl (Nat.le_of_ble_eq_true rfl) (Nat.le_of_ble_eq_true rfl) (Nat.le_of_ble_eq_true rfl) (Nat.le_of_ble_eq_true rfl) (Nat.le_of_ble_eq_true rfl) dX9_givenBy_21 ?_
      refine g_if_eq (pc := 24) C (tgt := 44) dX9_givenBy_24 rfl h (fun h => ?_) (fun h => ?_)
      · refine g_iconst (pc := 44) C dX9_givenBy_44 ci_0 ?_
        refine g_iadd (pc := 45) C dX9_givenBy_45 ?_
        refine g_istore_n (pc := 46) C [(3, .int (x3 + 0)), (0, .ref (a0 0)), (1, .int n1), (2, .int n2), (4, .int x4)] dX9_givenBy_46 rfl (by decide) rfl ?_
        refine g_iinc (pc := 47) C (j := 4) [(4, .int (x4 + 1)), (3, .int (x3 + 0)), (0, .ref (a0 0)), (1, .int n1), (2, .int n2)] dX9_givenBy_47 rfl (ii_1 _) (by decide) rfl ?_
        refine g_goto (pc := 50) C (tgt := 5) dX9_givenBy_50 rfl ?_
        refine g_lv [2, 3, 4, 1, 0] rfl ?_
        exact ih (x3 + 0) (x4 + 1) h
      · refine g_iload_n (pc := 27) C 1 rfl dX9_givenBy_27 ?_
        refine g_aload_n (pc := 28) C 0 rfl dX9_givenBy_28 ?_
        refine g_get (pc := 29) C FOK_X9 0 rfl rfl 1 (by decide) kw_368 rfl dX9_givenBy_29 ?_
        refine g_get (pc := 32) C FOK_X4 1 rfl rfl 9 (by decide) kw_173 rfl dX9_givenBy_32 ?_
        refine g_iload (pc := 35) C 4 rfl dX9_givenBy_35 ?_
        obtain ⟨hi, h⟩ := ix_of h
        refine g_iald (pc := 37) C 5 rfl hi dX9_givenBy_37 ?_
        refine g_imin (pc := 38) C kw_542 kw_543 kw_96 kw_544 (Nat.le_of_ble_eq_true rfl) (Nat.le_of_ble_eq_true rfl) (Nat.le_of_ble_eq_true rfl) (Nat.le_of_ble_eq_true rfl) dX9_givenBy_38 ?_
        refine g_goto (pc := 41) C (tgt := 45) dX9_givenBy_41 rfl ?_
        refine g_iadd (pc := 45) C dX9_givenBy_45 ?_
        refine g_istore_n (pc := 46) C [(3, .int (x3 + (imin n1 (s_many x4.toNatClampNeg)))), (0, .ref (a0 0)), (1, .int n1), (2, .int n2), (4, .int x4)] dX9_givenBy_46 rfl (by decide) rfl ?_
        refine g_iinc (pc := 47) C (j := 4) [(4, .int (x4 + 1)), (3, .int (x3 + (imin n1 (s_many x4.toNatClampNeg)))), (0, .ref (a0 0)), (1, .int n1), (2, .int n2)] dX9_givenBy_47 rfl (ii_1 _) (by decide) rfl ?_
        refine g_goto (pc := 50) C (tgt := 5) dX9_givenBy_50 rfl ?_
        refine g_lv [2, 3, 4, 1, 0] rfl ?_
        exact ih (x3 + (imin n1 (s_many x4.toNatClampNeg))) (x4 + 1) h
set_option maxRecDepth 100000 in
set_option maxHeartbeats 4000000 in
theorem t_X9_givenBy {J : Jt} {a0 : Nat → Nat} {a1 : Nat → Nat} {a2 : Nat → Nat} {k_tape : Nat} {k_trial : Nat} {k_task : Nat} {k_season : Nat} {k_stuffing : Nat} {k_images : Nat} {k_row : Nat} {k_sparePlan : Nat} {k_rule : Nat} {k_spareRule : Nat} {k_notes : Nat} {k_spareNotes : Nat} {x_latest : Value} {x_imageMany : Int32} {x_refusedSteps : Int32} {x_missing : Int32} {x_misused : Int32} {s_year : Int32} {s_wet : Int32} {s_lost : Int32} {s_eaten : Int32} {s_tied : Int32} {s_ripeMany : Int32} {s_gone : Nat → Int32} {s_place : Nat → Int32} {s_heard : Nat → Int32} {s_many : Nat → Int32} {s_lying : Nat → Int32} {s_ripe : Nat → Int32} {p_beds : Int32} {p_letters : Int32} {p_readers : Int32} {p_far : Nat → Int32} {p_drain : Nat → Int32} {p_length : Nat → Int32} {p_words : Nat → Int32} {p_home : Nat → Int32} {n1 : Int32} {n2 : Int32} {r : Int32} (h : f_X9_givenBy s_many p_beds n1 n2 = some r) : Mt J yX9_givenBy cX9_givenBy 5 (some .int) rm_X9_givenBy [.ref (a0 0), .int n1, .int n2] (cs_X9 (a0 0) k_tape (a1 0) k_trial k_task k_season k_stuffing k_images k_row (a2 0) k_sparePlan k_rule k_spareRule k_notes k_spareNotes x_latest x_imageMany x_refusedSteps x_missing x_misused ++ cs_X4 J.2.2.1 a1 s_year s_wet s_lost s_eaten s_tied s_ripeMany s_gone s_place s_heard s_many s_lying s_ripe ++ cs_X2 J.2.2.1 a2 p_beds p_letters p_readers p_far p_drain p_length p_words p_home) (some (.int r)) (cs_X9 (a0 0) k_tape (a1 0) k_trial k_task k_season k_stuffing k_images k_row (a2 0) k_sparePlan k_rule k_spareRule k_notes k_spareNotes x_latest x_imageMany x_refusedSteps x_missing x_misused ++ cs_X4 J.2.2.1 a1 s_year s_wet s_lost s_eaten s_tied s_ripeMany s_gone s_place s_heard s_many s_lying s_ripe ++ cs_X2 J.2.2.1 a2 p_beds p_letters p_readers p_far p_drain p_length p_words p_home) := by
  refine Mt_of (own := RX9) (by decide) rfl (Nat.le_of_ble_eq_true rfl) rfl (fun Z C E => ?_)
  unfold f_X9_givenBy at h
  show G J Z 0 0 (cs_X9 (a0 0) k_tape (a1 0) k_trial k_task k_season k_stuffing k_images k_row (a2 0) k_sparePlan k_rule k_spareRule k_notes k_spareNotes x_latest x_imageMany x_refusedSteps x_missing x_misused ++ cs_X4 J.2.2.1 a1 s_year s_wet s_lost s_eaten s_tied s_ripeMany s_gone s_place s_heard s_many s_lying s_ripe ++ cs_X2 J.2.2.1 a2 p_beds p_letters p_readers p_far p_drain p_length p_words p_home) 5 [(0, .ref (a0 0)), (1, .int n1), (2, .int n2)] 0 []
  refine g_iconst (pc := 0) C dX9_givenBy_0 ci_0 ?_
  refine g_istore_n (pc := 1) C [(3, .int 0), (0, .ref (a0 0)), (1, .int n1), (2, .int n2)] dX9_givenBy_1 rfl (by decide) rfl ?_
  refine g_iconst (pc := 2) C dX9_givenBy_2 ci_0 ?_
  refine g_istore (pc := 3) C [(4, .int 0), (3, .int 0), (0, .ref (a0 0)), (1, .int n1), (2, .int n2)] dX9_givenBy_3 (by decide) rfl ?_
  refine g_lv [2, 3, 4, 1, 0] rfl ?_
  exact j_X9_givenBy_5 C E    FU 0 0 h
noncomputable def f_X9_seed_51  (s_many : Nat → Int32) (p_beds : Int32) (n1 : Int32) (n2 : Int32) (n3 : Int32) : Nat → Int32 → Int32 → Int32 → Option (Nat × Int32 × Int32 × Int32)
  | 0, _, _, _ => none
  | n + 1, x4, x_missing, x_misused => if x4 ≤ 0 then some (0, 0, x_missing, x_misused) else b1 (f_X9_givenBy s_many p_beds x4 n2) (fun v1 => if n3 < v1 then f_X9_seed_51 s_many p_beds n1 n2 n3 n (x4 + (-1)) x_missing x_misused else if ixb n1 6 then some (0, imin x4 (s_many n1.toNatClampNeg), x_missing, x_misused) else none)
noncomputable def f_X9_seed (x_missing : Int32) (x_misused : Int32) (s_many : Nat → Int32) (p_beds : Int32) (n1 : Int32) (n2 : Int32) (n3 : Int32) : Option (Nat × Int32 × Int32 × Int32) := b2 (f_X9_needOneOf x_missing n1 p_beds) (fun e2 c3 => if e2 = 0 then b2 (f_X9_needRange x_misused n2 0 (((1 : Int32) <<< (p_beds &&& 31)) - 1)) (fun e4 c5 => if e4 = 0 then b2 (f_X9_needRange c5 n3 0 99) (fun e6 c7 => if e6 = 0 then b1 (f_X9_has n2 n1) (fun v8 => if v8 = 0 then some (0, 0, c3, c7) else f_X9_seed_51 s_many p_beds n1 n2 n3 FU 12 c3 c7) else some (e6, 0, c3, c7)) else some (e4, 0, c3, c5)) else some (e2, 0, c3, x_misused))
def rm_X9_seed : Room := { frames := 10, cells := 3, slots := 18, locals := 143 }
set_option maxRecDepth 100000 in
set_option maxHeartbeats 4000000 in
theorem j_X9_seed_51 {J : Jt} {Z : Zt} {a0 : Nat → Nat} {a1 : Nat → Nat} {a2 : Nat → Nat} {k_tape : Nat} {k_trial : Nat} {k_task : Nat} {k_season : Nat} {k_stuffing : Nat} {k_images : Nat} {k_row : Nat} {k_sparePlan : Nat} {k_rule : Nat} {k_spareRule : Nat} {k_notes : Nat} {k_spareNotes : Nat} {x_latest : Value} {x_imageMany : Int32} {x_refusedSteps : Int32} {s_year : Int32} {s_wet : Int32} {s_lost : Int32} {s_eaten : Int32} {s_tied : Int32} {s_ripeMany : Int32} {s_gone : Nat → Int32} {s_place : Nat → Int32} {s_heard : Nat → Int32} {s_many : Nat → Int32} {s_lying : Nat → Int32} {s_ripe : Nat → Int32} {p_beds : Int32} {p_letters : Int32} {p_readers : Int32} {p_far : Nat → Int32} {p_drain : Nat → Int32} {p_length : Nat → Int32} {p_words : Nat → Int32} {p_home : Nat → Int32} {n1 : Int32} {n2 : Int32} {n3 : Int32} {ex : Nat} {r : Int32} {o_x_missing : Int32} {o_x_misused : Int32} (C : Cx J Z cX9_seed 5 RX9 (some .int) rm_X9_seed) (hJ : J.1.stackTraces = false) (E : EzX J Z 3 18 ex (some (.int r)) (fun _ : Unit => cs_X9 (a0 0) k_tape (a1 0) k_trial k_task k_season k_stuffing k_images k_row (a2 0) k_sparePlan k_rule k_spareRule k_notes k_spareNotes x_latest x_imageMany x_refusedSteps o_x_missing o_x_misused ++ cs_X4 J.2.2.1 a1 s_year s_wet s_lost s_eaten s_tied s_ripeMany s_gone s_place s_heard s_many s_lying s_ripe ++ cs_X2 J.2.2.1 a2 p_beds p_letters p_readers p_far p_drain p_length p_words p_home)) : ∀ (n : Nat) (x4 : Int32) (x_missing : Int32) (x_misused : Int32), f_X9_seed_51 s_many p_beds n1 n2 n3 n x4 x_missing x_misused = some (ex, r, o_x_missing, o_x_misused) → G J Z 3 18 (cs_X9 (a0 0) k_tape (a1 0) k_trial k_task k_season k_stuffing k_images k_row (a2 0) k_sparePlan k_rule k_spareRule k_notes k_spareNotes x_latest x_imageMany x_refusedSteps x_missing x_misused ++ cs_X4 J.2.2.1 a1 s_year s_wet s_lost s_eaten s_tied s_ripeMany s_gone s_place s_heard s_many s_lying s_ripe ++ cs_X2 J.2.2.1 a2 p_beds p_letters p_readers p_far p_drain p_length p_words p_home) 5 [(0, .ref (a0 0)), (1, .int n1), (2, .int n2), (3, .int n3), (4, .int x4)] 51 [] := by
  intro n
  induction n with
  | zero =>
    intro x4 x_missing x_misused h
    rw [f_X9_seed_51] at h
    cases h
  | succ n ih =>
    intro x4 x_missing x_misused h
    rw [f_X9_seed_51] at h
    refine g_iload (pc := 51) C 4 rfl dX9_seed_51 ?_
    refine g_if_le (pc := 53) C (tgt := 88) dX9_seed_53 rfl h (fun h => ?_) (fun h => ?_)
    · refine g_iconst (pc := 88) C dX9_seed_88 ci_0 ?_
      cases h
      exact g_iretX C E () rfl dX9_seed_89
    · refine g_aload_n (pc := 56) C 0 rfl dX9_seed_56 ?_
      refine g_iload (pc := 57) C 4 rfl dX9_seed_57 ?_
      refine g_iload_n (pc := 59) C 2 rfl dX9_seed_59 ?_
      obtain ⟨v1, hc, h⟩ := b1_of h
      refine g_callV (pc := 60) C (w' := cs_X9 (a0 0) k_tape (a1 0) k_trial k_task k_season k_stuffing k_images k_row (a2 0) k_sparePlan k_rule k_spareRule k_notes k_spareNotes x_latest x_imageMany x_refusedSteps x_missing x_misused ++ cs_X4 J.2.2.1 a1 s_year s_wet s_lost s_eaten s_tied s_ripeMany s_gone s_place s_heard s_many s_lying s_ripe ++ cs_X2 J.2.2.1 a2 p_beds p_letters p_readers p_far p_drain p_length p_words p_home) (As := [.int x4, .int n2]) (st := []) (ci := 9) (q0 := 0) rfl rfl (t_X9_givenBy (k_tape := k_tape) (k_trial := k_trial) (k_task := k_task) (k_season := k_season) (k_stuffing := k_stuffing) (k_images := k_images) (k_row := k_row) (k_sparePlan := k_sparePlan) (k_rule := k_rule) (k_spareRule := k_spareRule) (k_notes := k_notes) (k_spareNotes := k_spareNotes) (a0 := a0) (a1 := a1) (a2 := a2) (x_latest := x_latest) (x_imageMany := x_imageMany) (x_refusedSteps := x_refusedSteps) (x_missing := x_missing) (x_misused := x_misused) (s_year := s_year) (s_wet := s_wet) (s_lost := s_lost) (s_eaten := s_eaten) (s_tied := s_tied) (s_ripeMany := s_ripeMany) (s_gone := s_gone) (s_place := s_place) (s_heard := s_heard) (s_many := s_many) (s_lying := s_lying) (s_ripe := s_ripe) (p_beds := p_beds) (p_letters := p_letters) (p_readers := p_readers) (p_far := p_far) (p_drain := p_drain) (p_length := p_length) (p_words := p_words) (p_home := p_home) hc) Sub.same kw_1155 kw_1157 kw_16 kw_86 hy_X9_givenBy kw_1158 rfl (Nat.le_of_ble_eq_true rfl) (Nat.le_of_ble_eq_true rfl) (Nat.le_of_ble_eq_true rfl) (Nat.le_of_ble_eq_true rfl) (Nat.le_of_ble_eq_true rfl) dX9_seed_60 ?_
      refine g_iload_n (pc := 63) C 3 rfl dX9_seed_63 ?_
      refine g_icmp_gt (pc := 64) C (tgt := 82) dX9_seed_64 rfl h (fun h => ?_) (fun h => ?_)
      · refine g_iinc (pc := 82) C (j := 4) [(4, .int (x4 + (-1))), (0, .ref (a0 0)), (1, .int n1), (2, .int n2), (3, .int n3)] dX9_seed_82 rfl (ii_m1 _) (by decide) rfl ?_
        refine g_goto (pc := 85) C (tgt := 51) dX9_seed_85 rfl ?_
        refine g_lv [1, 2, 3, 4, 0] rfl ?_
        exact ih (x4 + (-1)) x_missing x_misused h
      · refine g_iload (pc := 67) C 4 rfl dX9_seed_67 ?_
        refine g_aload_n (pc := 69) C 0 rfl dX9_seed_69 ?_
        refine g_get (pc := 70) C FOK_X9 0 rfl rfl 1 (by decide) kw_368 rfl dX9_seed_70 ?_
        refine g_get (pc := 73) C FOK_X4 1 rfl rfl 9 (by decide) kw_173 rfl dX9_seed_73 ?_
        refine g_iload_n (pc := 76) C 1 rfl dX9_seed_76 ?_
        obtain ⟨hi, h⟩ := ix_of h
        refine g_iald (pc := 77) C 5 rfl hi dX9_seed_77 ?_
        refine g_imin (pc := 78) C kw_542 kw_543 kw_96 kw_544 (Nat.le_of_ble_eq_true rfl) (Nat.le_of_ble_eq_true rfl) (Nat.le_of_ble_eq_true rfl) (Nat.le_of_ble_eq_true rfl) dX9_seed_78 ?_
        cases h
        exact g_iretX C E () rfl dX9_seed_81
set_option maxRecDepth 100000 in
set_option maxHeartbeats 4000000 in
theorem t_X9_seed {J : Jt} {a0 : Nat → Nat} {a1 : Nat → Nat} {a2 : Nat → Nat} {k_tape : Nat} {k_trial : Nat} {k_task : Nat} {k_season : Nat} {k_stuffing : Nat} {k_images : Nat} {k_row : Nat} {k_sparePlan : Nat} {k_rule : Nat} {k_spareRule : Nat} {k_notes : Nat} {k_spareNotes : Nat} {x_latest : Value} {x_imageMany : Int32} {x_refusedSteps : Int32} {x_missing : Int32} {x_misused : Int32} {s_year : Int32} {s_wet : Int32} {s_lost : Int32} {s_eaten : Int32} {s_tied : Int32} {s_ripeMany : Int32} {s_gone : Nat → Int32} {s_place : Nat → Int32} {s_heard : Nat → Int32} {s_many : Nat → Int32} {s_lying : Nat → Int32} {s_ripe : Nat → Int32} {p_beds : Int32} {p_letters : Int32} {p_readers : Int32} {p_far : Nat → Int32} {p_drain : Nat → Int32} {p_length : Nat → Int32} {p_words : Nat → Int32} {p_home : Nat → Int32} {n1 : Int32} {n2 : Int32} {n3 : Int32} {ex : Nat} {r : Int32} {o_x_missing : Int32} {o_x_misused : Int32} (hJ : J.1.stackTraces = false) (h : f_X9_seed x_missing x_misused s_many p_beds n1 n2 n3 = some (ex, r, o_x_missing, o_x_misused)) : MtX J yX9_seed cX9_seed 5 (some .int) rm_X9_seed [.ref (a0 0), .int n1, .int n2, .int n3] (cs_X9 (a0 0) k_tape (a1 0) k_trial k_task k_season k_stuffing k_images k_row (a2 0) k_sparePlan k_rule k_spareRule k_notes k_spareNotes x_latest x_imageMany x_refusedSteps x_missing x_misused ++ cs_X4 J.2.2.1 a1 s_year s_wet s_lost s_eaten s_tied s_ripeMany s_gone s_place s_heard s_many s_lying s_ripe ++ cs_X2 J.2.2.1 a2 p_beds p_letters p_readers p_far p_drain p_length p_words p_home) ex (some (.int r)) (fun _ : Unit => cs_X9 (a0 0) k_tape (a1 0) k_trial k_task k_season k_stuffing k_images k_row (a2 0) k_sparePlan k_rule k_spareRule k_notes k_spareNotes x_latest x_imageMany x_refusedSteps o_x_missing o_x_misused ++ cs_X4 J.2.2.1 a1 s_year s_wet s_lost s_eaten s_tied s_ripeMany s_gone s_place s_heard s_many s_lying s_ripe ++ cs_X2 J.2.2.1 a2 p_beds p_letters p_readers p_far p_drain p_length p_words p_home) := by
  refine MtX_of (own := RX9) (by decide) rfl (Nat.le_of_ble_eq_true rfl) rfl (fun Z C E => ?_)
  unfold f_X9_seed at h
  show G J Z 0 0 (cs_X9 (a0 0) k_tape (a1 0) k_trial k_task k_season k_stuffing k_images k_row (a2 0) k_sparePlan k_rule k_spareRule k_notes k_spareNotes x_latest x_imageMany x_refusedSteps x_missing x_misused ++ cs_X4 J.2.2.1 a1 s_year s_wet s_lost s_eaten s_tied s_ripeMany s_gone s_place s_heard s_many s_lying s_ripe ++ cs_X2 J.2.2.1 a2 p_beds p_letters p_readers p_far p_drain p_length p_words p_home) 5 [(0, .ref (a0 0)), (1, .int n1), (2, .int n2), (3, .int n3)] 0 []
  refine g_aload_n (pc := 0) C 0 rfl dX9_seed_0 ?_
  refine g_iload_n (pc := 1) C 1 rfl dX9_seed_1 ?_
  refine g_aload_n (pc := 2) C 0 rfl dX9_seed_2 ?_
  refine g_get (pc := 3) C FOK_X9 0 rfl rfl 8 (by decide) kw_375 rfl dX9_seed_3 ?_
  refine g_get (pc := 6) C FOK_X2 8 rfl rfl 0 (by decide) kw_279 rfl dX9_seed_6 ?_
  obtain ⟨e2, c3, hc, h⟩ := b2_of h
  refine g_xcallU (pc := 9) C (w' := cs_X9 (a0 0) k_tape (a1 0) k_trial k_task k_season k_stuffing k_images k_row (a2 0) k_sparePlan k_rule k_spareRule k_notes k_spareNotes x_latest x_imageMany x_refusedSteps c3 x_misused ++ cs_X4 J.2.2.1 a1 s_year s_wet s_lost s_eaten s_tied s_ripeMany s_gone s_place s_heard s_many s_lying s_ripe ++ cs_X2 J.2.2.1 a2 p_beds p_letters p_readers p_far p_drain p_length p_words p_home) (As := [.int n1, .int p_beds]) (st := []) (ci := 9) (q0 := 0) rfl rfl (t_X9_needOneOf (k_tape := k_tape) (k_now := (a1 0)) (k_trial := k_trial) (k_task := k_task) (k_season := k_season) (k_stuffing := k_stuffing) (k_images := k_images) (k_row := k_row) (k_plan := (a2 0)) (k_sparePlan := k_sparePlan) (k_rule := k_rule) (k_spareRule := k_spareRule) (k_notes := k_notes) (k_spareNotes := k_spareNotes) (a0 := a0) (x_latest := x_latest) (x_imageMany := x_imageMany) (x_refusedSteps := x_refusedSteps) (x_missing := x_missing) (x_misused := x_misused) hJ hc) (Sub.blk 3 [cs_X9 (a0 0) k_tape (a1 0) k_trial k_task k_season k_stuffing k_images k_row (a2 0) k_sparePlan k_rule k_spareRule k_notes k_spareNotes x_latest x_imageMany x_refusedSteps x_missing x_misused, cs_X4 J.2.2.1 a1 s_year s_wet s_lost s_eaten s_tied s_ripeMany s_gone s_place s_heard s_many s_lying s_ripe, cs_X2 J.2.2.1 a2 p_beds p_letters p_readers p_far p_drain p_length p_words p_home] [cs_X9 (a0 0) k_tape (a1 0) k_trial k_task k_season k_stuffing k_images k_row (a2 0) k_sparePlan k_rule k_spareRule k_notes k_spareNotes x_latest x_imageMany x_refusedSteps c3 x_misused, cs_X4 J.2.2.1 a1 s_year s_wet s_lost s_eaten s_tied s_ripeMany s_gone s_place s_heard s_many s_lying s_ripe, cs_X2 J.2.2.1 a2 p_beds p_letters p_readers p_far p_drain p_length p_words p_home] [1, 2] [0] rfl (by simp only [List.flatten_cons, List.flatten_nil, List.append_nil, List.append_assoc]) (by simp only [List.flatten_cons, List.flatten_nil, List.append_nil, List.append_assoc]) rfl rfl rfl (by decide) (by simp only [List.map_cons, List.map_nil, List.getD_cons_zero, List.getD_cons_succ, List.flatten_cons, List.flatten_nil, List.append_nil, List.append_assoc]) (by simp only [List.map_cons, List.map_nil, List.getD_cons_zero, List.getD_cons_succ, List.flatten_cons, List.flatten_nil, List.append_nil, List.append_assoc])) kw_956 kw_958 kw_12 kw_86 hy_X9_needOneOf kw_959 rfl (Nat.le_of_ble_eq_true rfl) (Nat.le_of_ble_eq_true rfl) (Nat.le_of_ble_eq_true rfl) (Nat.le_of_ble_eq_true rfl) (Nat.le_of_ble_eq_true rfl) dX9_seed_9 (fun he => ?_) (fun he => ?_)
  · subst he
    rw [if_pos rfl] at h
    refine g_wid (n' := 1) (k' := 6) (Nat.le_of_ble_eq_true rfl) (Nat.le_of_ble_eq_true rfl) ?_
    refine g_aload_n (pc := 12) C 0 rfl dX9_seed_12 ?_
    refine g_iload_n (pc := 13) C 2 rfl dX9_seed_13 ?_
    refine g_iconst (pc := 14) C dX9_seed_14 ci_0 ?_
    refine g_iconst (pc := 15) C dX9_seed_15 ci_1 ?_
    refine g_aload_n (pc := 16) C 0 rfl dX9_seed_16 ?_
    refine g_get (pc := 17) C FOK_X9 0 rfl rfl 8 (by decide) kw_375 rfl dX9_seed_17 ?_
    refine g_get (pc := 20) C FOK_X2 8 rfl rfl 0 (by decide) kw_279 rfl dX9_seed_20 ?_
    refine g_ishl (pc := 23) C dX9_seed_23 ?_
    refine g_iconst (pc := 24) C dX9_seed_24 ci_1 ?_
    refine g_isub (pc := 25) C dX9_seed_25 ?_
    obtain ⟨e4, c5, hc, h⟩ := b2_of h
    refine g_xcallU (pc := 26) C (w' := cs_X9 (a0 0) k_tape (a1 0) k_trial k_task k_season k_stuffing k_images k_row (a2 0) k_sparePlan k_rule k_spareRule k_notes k_spareNotes x_latest x_imageMany x_refusedSteps c3 c5 ++ cs_X4 J.2.2.1 a1 s_year s_wet s_lost s_eaten s_tied s_ripeMany s_gone s_place s_heard s_many s_lying s_ripe ++ cs_X2 J.2.2.1 a2 p_beds p_letters p_readers p_far p_drain p_length p_words p_home) (As := [.int n2, .int 0, .int (((1 : Int32) <<< (p_beds &&& 31)) - 1)]) (st := []) (ci := 9) (q0 := 0) rfl rfl (t_X9_needRange (k_tape := k_tape) (k_now := (a1 0)) (k_trial := k_trial) (k_task := k_task) (k_season := k_season) (k_stuffing := k_stuffing) (k_images := k_images) (k_row := k_row) (k_plan := (a2 0)) (k_sparePlan := k_sparePlan) (k_rule := k_rule) (k_spareRule := k_spareRule) (k_notes := k_notes) (k_spareNotes := k_spareNotes) (a0 := a0) (x_latest := x_latest) (x_imageMany := x_imageMany) (x_refusedSteps := x_refusedSteps) (x_missing := c3) (x_misused := x_misused) hJ hc) (Sub.blk 3 [cs_X9 (a0 0) k_tape (a1 0) k_trial k_task k_season k_stuffing k_images k_row (a2 0) k_sparePlan k_rule k_spareRule k_notes k_spareNotes x_latest x_imageMany x_refusedSteps c3 x_misused, cs_X4 J.2.2.1 a1 s_year s_wet s_lost s_eaten s_tied s_ripeMany s_gone s_place s_heard s_many s_lying s_ripe, cs_X2 J.2.2.1 a2 p_beds p_letters p_readers p_far p_drain p_length p_words p_home] [cs_X9 (a0 0) k_tape (a1 0) k_trial k_task k_season k_stuffing k_images k_row (a2 0) k_sparePlan k_rule k_spareRule k_notes k_spareNotes x_latest x_imageMany x_refusedSteps c3 c5, cs_X4 J.2.2.1 a1 s_year s_wet s_lost s_eaten s_tied s_ripeMany s_gone s_place s_heard s_many s_lying s_ripe, cs_X2 J.2.2.1 a2 p_beds p_letters p_readers p_far p_drain p_length p_words p_home] [1, 2] [0] rfl (by simp only [List.flatten_cons, List.flatten_nil, List.append_nil, List.append_assoc]) (by simp only [List.flatten_cons, List.flatten_nil, List.append_nil, List.append_assoc]) rfl rfl rfl (by decide) (by simp only [List.map_cons, List.map_nil, List.getD_cons_zero, List.getD_cons_succ, List.flatten_cons, List.flatten_nil, List.append_nil, List.append_assoc]) (by simp only [List.map_cons, List.map_nil, List.getD_cons_zero, List.getD_cons_succ, List.flatten_cons, List.flatten_nil, List.append_nil, List.append_assoc])) kw_545 kw_547 kw_2 kw_86 hy_X9_needRange kw_548 rfl (Nat.le_of_ble_eq_true rfl) (Nat.le_of_ble_eq_true rfl) (Nat.le_of_ble_eq_true rfl) (Nat.le_of_ble_eq_true rfl) (Nat.le_of_ble_eq_true rfl) dX9_seed_26 (fun he => ?_) (fun he => ?_)
    · subst he
      rw [if_pos rfl] at h
      refine g_wid (n' := 2) (k' := 12) (Nat.le_of_ble_eq_true rfl) (Nat.le_of_ble_eq_true rfl) ?_
      refine g_aload_n (pc := 29) C 0 rfl dX9_seed_29 ?_
      refine g_iload_n (pc := 30) C 3 rfl dX9_seed_30 ?_
      refine g_iconst (pc := 31) C dX9_seed_31 ci_0 ?_
      refine g_bipush (pc := 32) C dX9_seed_32 cb_99 ?_
      obtain ⟨e6, c7, hc, h⟩ := b2_of h
      refine g_xcallU (pc := 34) C (w' := cs_X9 (a0 0) k_tape (a1 0) k_trial k_task k_season k_stuffing k_images k_row (a2 0) k_sparePlan k_rule k_spareRule k_notes k_spareNotes x_latest x_imageMany x_refusedSteps c3 c7 ++ cs_X4 J.2.2.1 a1 s_year s_wet s_lost s_eaten s_tied s_ripeMany s_gone s_place s_heard s_many s_lying s_ripe ++ cs_X2 J.2.2.1 a2 p_beds p_letters p_readers p_far p_drain p_length p_words p_home) (As := [.int n3, .int 0, .int 99]) (st := []) (ci := 9) (q0 := 0) rfl rfl (t_X9_needRange (k_tape := k_tape) (k_now := (a1 0)) (k_trial := k_trial) (k_task := k_task) (k_season := k_season) (k_stuffing := k_stuffing) (k_images := k_images) (k_row := k_row) (k_plan := (a2 0)) (k_sparePlan := k_sparePlan) (k_rule := k_rule) (k_spareRule := k_spareRule) (k_notes := k_notes) (k_spareNotes := k_spareNotes) (a0 := a0) (x_latest := x_latest) (x_imageMany := x_imageMany) (x_refusedSteps := x_refusedSteps) (x_missing := c3) (x_misused := c5) hJ hc) (Sub.blk 3 [cs_X9 (a0 0) k_tape (a1 0) k_trial k_task k_season k_stuffing k_images k_row (a2 0) k_sparePlan k_rule k_spareRule k_notes k_spareNotes x_latest x_imageMany x_refusedSteps c3 c5, cs_X4 J.2.2.1 a1 s_year s_wet s_lost s_eaten s_tied s_ripeMany s_gone s_place s_heard s_many s_lying s_ripe, cs_X2 J.2.2.1 a2 p_beds p_letters p_readers p_far p_drain p_length p_words p_home] [cs_X9 (a0 0) k_tape (a1 0) k_trial k_task k_season k_stuffing k_images k_row (a2 0) k_sparePlan k_rule k_spareRule k_notes k_spareNotes x_latest x_imageMany x_refusedSteps c3 c7, cs_X4 J.2.2.1 a1 s_year s_wet s_lost s_eaten s_tied s_ripeMany s_gone s_place s_heard s_many s_lying s_ripe, cs_X2 J.2.2.1 a2 p_beds p_letters p_readers p_far p_drain p_length p_words p_home] [1, 2] [0] rfl (by simp only [List.flatten_cons, List.flatten_nil, List.append_nil, List.append_assoc]) (by simp only [List.flatten_cons, List.flatten_nil, List.append_nil, List.append_assoc]) rfl rfl rfl (by decide) (by simp only [List.map_cons, List.map_nil, List.getD_cons_zero, List.getD_cons_succ, List.flatten_cons, List.flatten_nil, List.append_nil, List.append_assoc]) (by simp only [List.map_cons, List.map_nil, List.getD_cons_zero, List.getD_cons_succ, List.flatten_cons, List.flatten_nil, List.append_nil, List.append_assoc])) kw_545 kw_547 kw_2 kw_86 hy_X9_needRange kw_548 rfl (Nat.le_of_ble_eq_true rfl) (Nat.le_of_ble_eq_true rfl) (Nat.le_of_ble_eq_true rfl) (Nat.le_of_ble_eq_true rfl) (Nat.le_of_ble_eq_true rfl) dX9_seed_34 (fun he => ?_) (fun he => ?_)
      · subst he
        rw [if_pos rfl] at h
        refine g_wid (n' := 3) (k' := 18) (Nat.le_of_ble_eq_true rfl) (Nat.le_of_ble_eq_true rfl) ?_
        refine g_iload_n (pc := 37) C 2 rfl dX9_seed_37 ?_
        refine g_iload_n (pc := 38) C 1 rfl dX9_seed_38 ?_
        obtain ⟨v8, hc, h⟩ := b1_of h
        refine g_callS (pc := 39) C (w' := cs_X9 (a0 0) k_tape (a1 0) k_trial k_task k_season k_stuffing k_images k_row (a2 0) k_sparePlan k_rule k_spareRule k_notes k_spareNotes x_latest x_imageMany x_refusedSteps c3 c7 ++ cs_X4 J.2.2.1 a1 s_year s_wet s_lost s_eaten s_tied s_ripeMany s_gone s_place s_heard s_many s_lying s_ripe ++ cs_X2 J.2.2.1 a2 p_beds p_letters p_readers p_far p_drain p_length p_words p_home) (As := [.int n2, .int n1]) (st := []) (t_X9_has hc) Sub.nil kw_1056 kw_483 kw_86 hy_X9_has kw_484 rfl (Nat.le_of_ble_eq_true rfl) (Nat.le_of_ble_eq_true rfl) (Nat.le_of_ble_eq_true rfl) (Nat.le_of_ble_eq_true rfl) (Nat.le_of_ble_eq_true rfl) dX9_seed_39 ?_
        refine g_if_ne (pc := 42) C (tgt := 47) dX9_seed_42 rfl h (fun h => ?_) (fun h => ?_)
        · refine g_bipush (pc := 47) C dX9_seed_47 cb_12 ?_
          refine g_istore (pc := 49) C [(4, .int 12), (0, .ref (a0 0)), (1, .int n1), (2, .int n2), (3, .int n3)] dX9_seed_49 (by decide) rfl ?_
          refine g_lv [1, 2, 3, 4, 0] rfl ?_
          exact j_X9_seed_51 C hJ E    FU 12 c3 c7 h
        · refine g_iconst (pc := 45) C dX9_seed_45 ci_0 ?_
          cases h
          exact g_iretX C E () rfl dX9_seed_46
      · rw [if_neg he] at h
        cases h
        exact gt_out C he E (Nat.le_of_ble_eq_true rfl) (Nat.le_of_ble_eq_true rfl) () rfl
    · rw [if_neg he] at h
      cases h
      exact gt_out C he E (Nat.le_of_ble_eq_true rfl) (Nat.le_of_ble_eq_true rfl) () rfl
  · rw [if_neg he] at h
    cases h
    exact gt_out C he E (Nat.le_of_ble_eq_true rfl) (Nat.le_of_ble_eq_true rfl) () rfl
noncomputable def f_X9_often_14  (s_many : Nat → Int32) (s_lying : Nat → Int32) (p_beds : Int32) (n1 : Int32) : Nat → Int32 → Int32 → Int32 → Int32 → Option (Nat × Int32 × Int32)
  | 0, _, _, _, _ => none
  | n + 1, x2, x3, x4, x_misused => if 16 ≤ x4 then if n1 = 0 then some (0, x2, x_misused) else some (0, x3, x_misused) else b1 (f_X4_timesOf s_many s_lying p_beds x4) (fun v1 => if v1 ≤ 0 then f_X9_often_14 s_many s_lying p_beds n1 n x2 x3 (x4 + 1) x_misused else if v1 ≤ x3 then f_X9_often_14 s_many s_lying p_beds n1 n x2 x3 (x4 + 1) x_misused else f_X9_often_14 s_many s_lying p_beds n1 n x4 v1 (x4 + 1) x_misused)
noncomputable def f_X9_often (x_misused : Int32) (s_many : Nat → Int32) (s_lying : Nat → Int32) (p_beds : Int32) (n1 : Int32) : Option (Nat × Int32 × Int32) := b2 (f_X9_needRange x_misused n1 0 1) (fun e2 c3 => if e2 = 0 then f_X9_often_14 s_many s_lying p_beds n1 FU (-1) (-1) 0 c3 else some (e2, 0, c3))
def rm_X9_often : Room := { frames := 10, cells := 1, slots := 6, locals := 143 }
set_option maxRecDepth 100000 in
set_option maxHeartbeats 4000000 in
theorem j_X9_often_14 {J : Jt} {Z : Zt} {a0 : Nat → Nat} {a1 : Nat → Nat} {a2 : Nat → Nat} {k_tape : Nat} {k_trial : Nat} {k_task : Nat} {k_season : Nat} {k_stuffing : Nat} {k_images : Nat} {k_row : Nat} {k_sparePlan : Nat} {k_rule : Nat} {k_spareRule : Nat} {k_notes : Nat} {k_spareNotes : Nat} {x_latest : Value} {x_imageMany : Int32} {x_refusedSteps : Int32} {x_missing : Int32} {s_year : Int32} {s_wet : Int32} {s_lost : Int32} {s_eaten : Int32} {s_tied : Int32} {s_ripeMany : Int32} {s_gone : Nat → Int32} {s_place : Nat → Int32} {s_heard : Nat → Int32} {s_many : Nat → Int32} {s_lying : Nat → Int32} {s_ripe : Nat → Int32} {p_beds : Int32} {p_letters : Int32} {p_readers : Int32} {p_far : Nat → Int32} {p_drain : Nat → Int32} {p_length : Nat → Int32} {p_words : Nat → Int32} {p_home : Nat → Int32} {n1 : Int32} {ex : Nat} {r : Int32} {o_x_misused : Int32} (C : Cx J Z cX9_often 6 RX9 (some .int) rm_X9_often) (hJ : J.1.stackTraces = false) (E : EzX J Z 1 6 ex (some (.int r)) (fun _ : Unit => cs_X9 (a0 0) k_tape (a1 0) k_trial k_task k_season k_stuffing k_images k_row (a2 0) k_sparePlan k_rule k_spareRule k_notes k_spareNotes x_latest x_imageMany x_refusedSteps x_missing o_x_misused ++ cs_X4 J.2.2.1 a1 s_year s_wet s_lost s_eaten s_tied s_ripeMany s_gone s_place s_heard s_many s_lying s_ripe ++ cs_X2 J.2.2.1 a2 p_beds p_letters p_readers p_far p_drain p_length p_words p_home)) : ∀ (n : Nat) (x2 : Int32) (x3 : Int32) (x4 : Int32) (x_misused : Int32), f_X9_often_14 s_many s_lying p_beds n1 n x2 x3 x4 x_misused = some (ex, r, o_x_misused) → G J Z 1 6 (cs_X9 (a0 0) k_tape (a1 0) k_trial k_task k_season k_stuffing k_images k_row (a2 0) k_sparePlan k_rule k_spareRule k_notes k_spareNotes x_latest x_imageMany x_refusedSteps x_missing x_misused ++ cs_X4 J.2.2.1 a1 s_year s_wet s_lost s_eaten s_tied s_ripeMany s_gone s_place s_heard s_many s_lying s_ripe ++ cs_X2 J.2.2.1 a2 p_beds p_letters p_readers p_far p_drain p_length p_words p_home) 6 [(0, .ref (a0 0)), (1, .int n1), (2, .int x2), (3, .int x3), (4, .int x4)] 14 [] := by
  intro n
  induction n with
  | zero =>
    intro x2 x3 x4 x_misused h
    rw [f_X9_often_14] at h
    cases h
  | succ n ih =>
    intro x2 x3 x4 x_misused h
    rw [f_X9_often_14] at h
    refine g_iload (pc := 14) C 4 rfl dX9_often_14 ?_
    refine g_bipush (pc := 16) C dX9_often_16 cb_16 ?_
    refine g_icmp_ge (pc := 18) C (tgt := 59) dX9_often_18 rfl h (fun h => ?_) (fun h => ?_)
    · refine g_iload_n (pc := 59) C 1 rfl dX9_often_59 ?_
      refine g_if_ne (pc := 60) C (tgt := 67) dX9_often_60 rfl h (fun h => ?_) (fun h => ?_)
      · refine g_iload_n (pc := 67) C 3 rfl dX9_often_67 ?_
        cases h
        exact g_iretX C E () rfl dX9_often_68
      · refine g_iload_n (pc := 63) C 2 rfl dX9_often_63 ?_
        refine g_goto (pc := 64) C (tgt := 68) dX9_often_64 rfl ?_
        cases h
        exact g_iretX C E () rfl dX9_often_68
    · refine g_aload_n (pc := 21) C 0 rfl dX9_often_21 ?_
      refine g_get (pc := 22) C FOK_X9 0 rfl rfl 1 (by decide) kw_368 rfl dX9_often_22 ?_
      refine g_aload_n (pc := 25) C 0 rfl dX9_often_25 ?_
      refine g_get (pc := 26) C FOK_X9 0 rfl rfl 8 (by decide) kw_375 rfl dX9_often_26 ?_
      refine g_iload (pc := 29) C 4 rfl dX9_often_29 ?_
      obtain ⟨v1, hc, h⟩ := b1_of h
      refine g_callV (pc := 31) C (w' := cs_X9 (a0 0) k_tape (a1 0) k_trial k_task k_season k_stuffing k_images k_row (a2 0) k_sparePlan k_rule k_spareRule k_notes k_spareNotes x_latest x_imageMany x_refusedSteps x_missing x_misused ++ cs_X4 J.2.2.1 a1 s_year s_wet s_lost s_eaten s_tied s_ripeMany s_gone s_place s_heard s_many s_lying s_ripe ++ cs_X2 J.2.2.1 a2 p_beds p_letters p_readers p_far p_drain p_length p_words p_home) (As := [.ref (a2 0), .int x4]) (st := []) (ci := 4) (q0 := 1) rfl rfl (t_X4_timesOf (a0 := a1) (a1 := a2) (s_year := s_year) (s_wet := s_wet) (s_lost := s_lost) (s_eaten := s_eaten) (s_tied := s_tied) (s_ripeMany := s_ripeMany) (s_gone := s_gone) (s_place := s_place) (s_heard := s_heard) (s_many := s_many) (s_lying := s_lying) (s_ripe := s_ripe) (p_beds := p_beds) (p_letters := p_letters) (p_readers := p_readers) (p_far := p_far) (p_drain := p_drain) (p_length := p_length) (p_words := p_words) (p_home := p_home) hc) (Sub.blk 3 [cs_X9 (a0 0) k_tape (a1 0) k_trial k_task k_season k_stuffing k_images k_row (a2 0) k_sparePlan k_rule k_spareRule k_notes k_spareNotes x_latest x_imageMany x_refusedSteps x_missing x_misused, cs_X4 J.2.2.1 a1 s_year s_wet s_lost s_eaten s_tied s_ripeMany s_gone s_place s_heard s_many s_lying s_ripe, cs_X2 J.2.2.1 a2 p_beds p_letters p_readers p_far p_drain p_length p_words p_home] [cs_X9 (a0 0) k_tape (a1 0) k_trial k_task k_season k_stuffing k_images k_row (a2 0) k_sparePlan k_rule k_spareRule k_notes k_spareNotes x_latest x_imageMany x_refusedSteps x_missing x_misused, cs_X4 J.2.2.1 a1 s_year s_wet s_lost s_eaten s_tied s_ripeMany s_gone s_place s_heard s_many s_lying s_ripe, cs_X2 J.2.2.1 a2 p_beds p_letters p_readers p_far p_drain p_length p_words p_home] [0] [1, 2] rfl (by simp only [List.flatten_cons, List.flatten_nil, List.append_nil, List.append_assoc]) (by simp only [List.flatten_cons, List.flatten_nil, List.append_nil, List.append_assoc]) rfl rfl rfl (by decide) (by simp only [List.map_cons, List.map_nil, List.getD_cons_zero, List.getD_cons_succ, List.flatten_cons, List.flatten_nil, List.append_nil, List.append_assoc]) (by simp only [List.map_cons, List.map_nil, List.getD_cons_zero, List.getD_cons_succ, List.flatten_cons, List.flatten_nil, List.append_nil, List.append_assoc])) kw_1166 kw_1167 kw_1168 kw_88 hy_X4_timesOf kw_1169 rfl (Nat.le_of_ble_eq_true rfl) (Nat.le_of_ble_eq_true rfl) (Nat.le_of_ble_eq_true rfl) (Nat.le_of_ble_eq_true rfl) (Nat.le_of_ble_eq_true rfl) dX9_often_31 ?_
      refine g_istore (pc := 34) C [(5, .int v1), (0, .ref (a0 0)), (1, .int n1), (2, .int x2), (3, .int x3), (4, .int x4)] dX9_often_34 (by decide) rfl ?_
      refine g_iload (pc := 36) C 0 rfl dX9_often_36 ?_
      refine g_if_le (pc := 38) C (tgt := 53) dX9_often_38 rfl h (fun h => ?_) (fun h => ?_)
      · refine g_iinc (pc := 53) C (j := 5) [(4, .int (x4 + 1)), (5, .int v1), (0, .ref (a0 0)), (1, .int n1), (2, .int x2), (3, .int x3)] dX9_often_53 rfl (ii_1 _) (by decide) rfl ?_
        refine g_goto (pc := 56) C (tgt := 14) dX9_often_56 rfl ?_
        refine g_lv [2, 3, 4, 5, 0] rfl ?_
        exact ih x2 x3 (x4 + 1) x_misused h
      · refine g_iload (pc := 41) C 0 rfl dX9_often_41 ?_
        refine g_iload_n (pc := 43) C 4 rfl dX9_often_43 ?_
        refine g_icmp_le (pc := 44) C (tgt := 53) dX9_often_44 rfl h (fun h => ?_) (fun h => ?_)
        · refine g_iinc (pc := 53) C (j := 5) [(4, .int (x4 + 1)), (5, .int v1), (0, .ref (a0 0)), (1, .int n1), (2, .int x2), (3, .int x3)] dX9_often_53 rfl (ii_1 _) (by decide) rfl ?_
          refine g_goto (pc := 56) C (tgt := 14) dX9_often_56 rfl ?_
          refine g_lv [2, 3, 4, 5, 0] rfl ?_
          exact ih x2 x3 (x4 + 1) x_misused h
        · refine g_iload (pc := 47) C 5 rfl dX9_often_47 ?_
          refine g_istore_n (pc := 49) C [(2, .int x4), (5, .int v1), (0, .ref (a0 0)), (1, .int n1), (3, .int x3), (4, .int x4)] dX9_often_49 rfl (by decide) rfl ?_
          refine g_iload (pc := 50) C 1 rfl dX9_often_50 ?_
          refine g_istore_n (pc := 52) C [(3, .int v1), (2, .int x4), (5, .int v1), (0, .ref (a0 0)), (1, .int n1), (4, .int x4)] dX9_often_52 rfl (by decide) rfl ?_
          refine g_iinc (pc := 53) C (j := 5) [(4, .int (x4 + 1)), (3, .int v1), (2, .int x4), (5, .int v1), (0, .ref (a0 0)), (1, .int n1)] dX9_often_53 rfl (ii_1 _) (by decide) rfl ?_
          refine g_goto (pc := 56) C (tgt := 14) dX9_often_56 rfl ?_
          refine g_lv [4, 5, 2, 1, 0] rfl ?_
          exact ih x4 v1 (x4 + 1) x_misused h
set_option maxRecDepth 100000 in
set_option maxHeartbeats 4000000 in
theorem t_X9_often {J : Jt} {a0 : Nat → Nat} {a1 : Nat → Nat} {a2 : Nat → Nat} {k_tape : Nat} {k_trial : Nat} {k_task : Nat} {k_season : Nat} {k_stuffing : Nat} {k_images : Nat} {k_row : Nat} {k_sparePlan : Nat} {k_rule : Nat} {k_spareRule : Nat} {k_notes : Nat} {k_spareNotes : Nat} {x_latest : Value} {x_imageMany : Int32} {x_refusedSteps : Int32} {x_missing : Int32} {x_misused : Int32} {s_year : Int32} {s_wet : Int32} {s_lost : Int32} {s_eaten : Int32} {s_tied : Int32} {s_ripeMany : Int32} {s_gone : Nat → Int32} {s_place : Nat → Int32} {s_heard : Nat → Int32} {s_many : Nat → Int32} {s_lying : Nat → Int32} {s_ripe : Nat → Int32} {p_beds : Int32} {p_letters : Int32} {p_readers : Int32} {p_far : Nat → Int32} {p_drain : Nat → Int32} {p_length : Nat → Int32} {p_words : Nat → Int32} {p_home : Nat → Int32} {n1 : Int32} {ex : Nat} {r : Int32} {o_x_misused : Int32} (hJ : J.1.stackTraces = false) (h : f_X9_often x_misused s_many s_lying p_beds n1 = some (ex, r, o_x_misused)) : MtX J yX9_often cX9_often 6 (some .int) rm_X9_often [.ref (a0 0), .int n1] (cs_X9 (a0 0) k_tape (a1 0) k_trial k_task k_season k_stuffing k_images k_row (a2 0) k_sparePlan k_rule k_spareRule k_notes k_spareNotes x_latest x_imageMany x_refusedSteps x_missing x_misused ++ cs_X4 J.2.2.1 a1 s_year s_wet s_lost s_eaten s_tied s_ripeMany s_gone s_place s_heard s_many s_lying s_ripe ++ cs_X2 J.2.2.1 a2 p_beds p_letters p_readers p_far p_drain p_length p_words p_home) ex (some (.int r)) (fun _ : Unit => cs_X9 (a0 0) k_tape (a1 0) k_trial k_task k_season k_stuffing k_images k_row (a2 0) k_sparePlan k_rule k_spareRule k_notes k_spareNotes x_latest x_imageMany x_refusedSteps x_missing o_x_misused ++ cs_X4 J.2.2.1 a1 s_year s_wet s_lost s_eaten s_tied s_ripeMany s_gone s_place s_heard s_many s_lying s_ripe ++ cs_X2 J.2.2.1 a2 p_beds p_letters p_readers p_far p_drain p_length p_words p_home) := by
  refine MtX_of (own := RX9) (by decide) rfl (Nat.le_of_ble_eq_true rfl) rfl (fun Z C E => ?_)
  unfold f_X9_often at h
  show G J Z 0 0 (cs_X9 (a0 0) k_tape (a1 0) k_trial k_task k_season k_stuffing k_images k_row (a2 0) k_sparePlan k_rule k_spareRule k_notes k_spareNotes x_latest x_imageMany x_refusedSteps x_missing x_misused ++ cs_X4 J.2.2.1 a1 s_year s_wet s_lost s_eaten s_tied s_ripeMany s_gone s_place s_heard s_many s_lying s_ripe ++ cs_X2 J.2.2.1 a2 p_beds p_letters p_readers p_far p_drain p_length p_words p_home) 6 [(0, .ref (a0 0)), (1, .int n1)] 0 []
  refine g_aload_n (pc := 0) C 0 rfl dX9_often_0 ?_
  refine g_iload_n (pc := 1) C 1 rfl dX9_often_1 ?_
  refine g_iconst (pc := 2) C dX9_often_2 ci_0 ?_
  refine g_iconst (pc := 3) C dX9_often_3 ci_1 ?_
  obtain ⟨e2, c3, hc, h⟩ := b2_of h
  refine g_xcallU (pc := 4) C (w' := cs_X9 (a0 0) k_tape (a1 0) k_trial k_task k_season k_stuffing k_images k_row (a2 0) k_sparePlan k_rule k_spareRule k_notes k_spareNotes x_latest x_imageMany x_refusedSteps x_missing c3 ++ cs_X4 J.2.2.1 a1 s_year s_wet s_lost s_eaten s_tied s_ripeMany s_gone s_place s_heard s_many s_lying s_ripe ++ cs_X2 J.2.2.1 a2 p_beds p_letters p_readers p_far p_drain p_length p_words p_home) (As := [.int n1, .int 0, .int 1]) (st := []) (ci := 9) (q0 := 0) rfl rfl (t_X9_needRange (k_tape := k_tape) (k_now := (a1 0)) (k_trial := k_trial) (k_task := k_task) (k_season := k_season) (k_stuffing := k_stuffing) (k_images := k_images) (k_row := k_row) (k_plan := (a2 0)) (k_sparePlan := k_sparePlan) (k_rule := k_rule) (k_spareRule := k_spareRule) (k_notes := k_notes) (k_spareNotes := k_spareNotes) (a0 := a0) (x_latest := x_latest) (x_imageMany := x_imageMany) (x_refusedSteps := x_refusedSteps) (x_missing := x_missing) (x_misused := x_misused) hJ hc) (Sub.blk 3 [cs_X9 (a0 0) k_tape (a1 0) k_trial k_task k_season k_stuffing k_images k_row (a2 0) k_sparePlan k_rule k_spareRule k_notes k_spareNotes x_latest x_imageMany x_refusedSteps x_missing x_misused, cs_X4 J.2.2.1 a1 s_year s_wet s_lost s_eaten s_tied s_ripeMany s_gone s_place s_heard s_many s_lying s_ripe, cs_X2 J.2.2.1 a2 p_beds p_letters p_readers p_far p_drain p_length p_words p_home] [cs_X9 (a0 0) k_tape (a1 0) k_trial k_task k_season k_stuffing k_images k_row (a2 0) k_sparePlan k_rule k_spareRule k_notes k_spareNotes x_latest x_imageMany x_refusedSteps x_missing c3, cs_X4 J.2.2.1 a1 s_year s_wet s_lost s_eaten s_tied s_ripeMany s_gone s_place s_heard s_many s_lying s_ripe, cs_X2 J.2.2.1 a2 p_beds p_letters p_readers p_far p_drain p_length p_words p_home] [1, 2] [0] rfl (by simp only [List.flatten_cons, List.flatten_nil, List.append_nil, List.append_assoc]) (by simp only [List.flatten_cons, List.flatten_nil, List.append_nil, List.append_assoc]) rfl rfl rfl (by decide) (by simp only [List.map_cons, List.map_nil, List.getD_cons_zero, List.getD_cons_succ, List.flatten_cons, List.flatten_nil, List.append_nil, List.append_assoc]) (by simp only [List.map_cons, List.map_nil, List.getD_cons_zero, List.getD_cons_succ, List.flatten_cons, List.flatten_nil, List.append_nil, List.append_assoc])) kw_545 kw_547 kw_2 kw_86 hy_X9_needRange kw_548 rfl (Nat.le_of_ble_eq_true rfl) (Nat.le_of_ble_eq_true rfl) (Nat.le_of_ble_eq_true rfl) (Nat.le_of_ble_eq_true rfl) (Nat.le_of_ble_eq_true rfl) dX9_often_4 (fun he => ?_) (fun he => ?_)
  · subst he
    rw [if_pos rfl] at h
    refine g_wid (n' := 1) (k' := 6) (Nat.le_of_ble_eq_true rfl) (Nat.le_of_ble_eq_true rfl) ?_
    refine g_iconst (pc := 7) C dX9_often_7 ci_m1 ?_
    refine g_istore_n (pc := 8) C [(2, .int (-1)), (0, .ref (a0 0)), (1, .int n1)] dX9_often_8 rfl (by decide) rfl ?_
    refine g_iconst (pc := 9) C dX9_often_9 ci_m1 ?_
    refine g_istore_n (pc := 10) C [(3, .int (-1)), (2, .int (-1)), (0, .ref (a0 0)), (1, .int n1)] dX9_often_10 rfl (by decide) rfl ?_
    refine g_iconst (pc := 11) C dX9_often_11 ci_0 ?_
    refine g_istore (pc := 12) C [(4, .int 0), (3, .int (-1)), (2, .int (-1)), (0, .ref (a0 0)), (1, .int n1)] dX9_often_12 (by decide) rfl ?_
    refine g_lv [3, 4, 2, 1, 0] rfl ?_
    exact j_X9_often_14 C hJ E    FU (-1) (-1) 0 c3 h
  · rw [if_neg he] at h
    cases h
    exact gt_out C he E (Nat.le_of_ble_eq_true rfl) (Nat.le_of_ble_eq_true rfl) () rfl
noncomputable def f_X9_hearers_12  (s_heard : Nat → Int32) (p_readers : Int32) (n1 : Int32) : Nat → Int32 → Int32 → Int32 → Option (Nat × Int32 × Int32)
  | 0, _, _, _ => none
  | n + 1, x2, x3, x_misused => if p_readers ≤ x3 then some (0, x2, x_misused) else if ixb x3 5 then b1 (f_X9_has (s_heard x3.toNatClampNeg) n1) (fun v1 => if v1 = 0 then f_X9_hearers_12 s_heard p_readers n1 n x2 (x3 + 1) x_misused else f_X9_hearers_12 s_heard p_readers n1 n (x2 ||| ((1 : Int32) <<< (x3 &&& 31))) (x3 + 1) x_misused) else none
noncomputable def f_X9_hearers (x_misused : Int32) (s_heard : Nat → Int32) (p_readers : Int32) (n1 : Int32) : Option (Nat × Int32 × Int32) := b2 (f_X9_needRange x_misused n1 0 15) (fun e2 c3 => if e2 = 0 then f_X9_hearers_12 s_heard p_readers n1 FU 0 0 c3 else some (e2, 0, c3))
def rm_X9_hearers : Room := { frames := 10, cells := 1, slots := 6, locals := 143 }
set_option maxRecDepth 100000 in
set_option maxHeartbeats 4000000 in
theorem j_X9_hearers_12 {J : Jt} {Z : Zt} {a0 : Nat → Nat} {a1 : Nat → Nat} {a2 : Nat → Nat} {k_tape : Nat} {k_trial : Nat} {k_task : Nat} {k_season : Nat} {k_stuffing : Nat} {k_images : Nat} {k_row : Nat} {k_sparePlan : Nat} {k_rule : Nat} {k_spareRule : Nat} {k_notes : Nat} {k_spareNotes : Nat} {x_latest : Value} {x_imageMany : Int32} {x_refusedSteps : Int32} {x_missing : Int32} {s_year : Int32} {s_wet : Int32} {s_lost : Int32} {s_eaten : Int32} {s_tied : Int32} {s_ripeMany : Int32} {s_gone : Nat → Int32} {s_place : Nat → Int32} {s_heard : Nat → Int32} {s_many : Nat → Int32} {s_lying : Nat → Int32} {s_ripe : Nat → Int32} {p_beds : Int32} {p_letters : Int32} {p_readers : Int32} {p_far : Nat → Int32} {p_drain : Nat → Int32} {p_length : Nat → Int32} {p_words : Nat → Int32} {p_home : Nat → Int32} {n1 : Int32} {ex : Nat} {r : Int32} {o_x_misused : Int32} (C : Cx J Z cX9_hearers 4 RX9 (some .int) rm_X9_hearers) (hJ : J.1.stackTraces = false) (E : EzX J Z 1 6 ex (some (.int r)) (fun _ : Unit => cs_X9 (a0 0) k_tape (a1 0) k_trial k_task k_season k_stuffing k_images k_row (a2 0) k_sparePlan k_rule k_spareRule k_notes k_spareNotes x_latest x_imageMany x_refusedSteps x_missing o_x_misused ++ cs_X4 J.2.2.1 a1 s_year s_wet s_lost s_eaten s_tied s_ripeMany s_gone s_place s_heard s_many s_lying s_ripe ++ cs_X2 J.2.2.1 a2 p_beds p_letters p_readers p_far p_drain p_length p_words p_home)) : ∀ (n : Nat) (x2 : Int32) (x3 : Int32) (x_misused : Int32), f_X9_hearers_12 s_heard p_readers n1 n x2 x3 x_misused = some (ex, r, o_x_misused) → G J Z 1 6 (cs_X9 (a0 0) k_tape (a1 0) k_trial k_task k_season k_stuffing k_images k_row (a2 0) k_sparePlan k_rule k_spareRule k_notes k_spareNotes x_latest x_imageMany x_refusedSteps x_missing x_misused ++ cs_X4 J.2.2.1 a1 s_year s_wet s_lost s_eaten s_tied s_ripeMany s_gone s_place s_heard s_many s_lying s_ripe ++ cs_X2 J.2.2.1 a2 p_beds p_letters p_readers p_far p_drain p_length p_words p_home) 4 [(0, .ref (a0 0)), (1, .int n1), (2, .int x2), (3, .int x3)] 12 [] := by
  intro n
  induction n with
  | zero =>
    intro x2 x3 x_misused h
    rw [f_X9_hearers_12] at h
    cases h
  | succ n ih =>
    intro x2 x3 x_misused h
    rw [f_X9_hearers_12] at h
    refine g_iload_n (pc := 12) C 3 rfl dX9_hearers_12 ?_
    refine g_aload_n (pc := 13) C 0 rfl dX9_hearers_13 ?_
    refine g_get (pc := 14) C FOK_X9 0 rfl rfl 8 (by decide) kw_375 rfl dX9_hearers_14 ?_
    refine g_get (pc := 17) C FOK_X2 8 rfl rfl 2 (by decide) kw_289 rfl dX9_hearers_17 ?_
    refine g_icmp_ge (pc := 20) C (tgt := 51) dX9_hearers_20 rfl h (fun h => ?_) (fun h => ?_)
    · refine g_iload_n (pc := 51) C 2 rfl dX9_hearers_51 ?_
      cases h
      exact g_iretX C E () rfl dX9_hearers_52
    · refine g_aload_n (pc := 23) C 0 rfl dX9_hearers_23 ?_
      refine g_get (pc := 24) C FOK_X9 0 rfl rfl 1 (by decide) kw_368 rfl dX9_hearers_24 ?_
      refine g_get (pc := 27) C FOK_X4 1 rfl rfl 8 (by decide) kw_171 rfl dX9_hearers_27 ?_
      refine g_iload_n (pc := 30) C 3 rfl dX9_hearers_30 ?_
      obtain ⟨hi, h⟩ := ix_of h
      refine g_iald (pc := 31) C 4 rfl hi dX9_hearers_31 ?_
      refine g_iload_n (pc := 32) C 1 rfl dX9_hearers_32 ?_
      obtain ⟨v1, hc, h⟩ := b1_of h
      refine g_callS (pc := 33) C (w' := cs_X9 (a0 0) k_tape (a1 0) k_trial k_task k_season k_stuffing k_images k_row (a2 0) k_sparePlan k_rule k_spareRule k_notes k_spareNotes x_latest x_imageMany x_refusedSteps x_missing x_misused ++ cs_X4 J.2.2.1 a1 s_year s_wet s_lost s_eaten s_tied s_ripeMany s_gone s_place s_heard s_many s_lying s_ripe ++ cs_X2 J.2.2.1 a2 p_beds p_letters p_readers p_far p_drain p_length p_words p_home) (As := [.int (s_heard x3.toNatClampNeg), .int n1]) (st := []) (t_X9_has hc) Sub.nil kw_1056 kw_483 kw_86 hy_X9_has kw_484 rfl (Nat.le_of_ble_eq_true rfl) (Nat.le_of_ble_eq_true rfl) (Nat.le_of_ble_eq_true rfl) (Nat.le_of_ble_eq_true rfl) (Nat.le_of_ble_eq_true rfl) dX9_hearers_33 ?_
      refine g_if_eq (pc := 36) C (tgt := 45) dX9_hearers_36 rfl h (fun h => ?_) (fun h => ?_)
      · refine g_iinc (pc := 45) C (j := 3) [(3, .int (x3 + 1)), (0, .ref (a0 0)), (1, .int n1), (2, .int x2)] dX9_hearers_45 rfl (ii_1 _) (by decide) rfl ?_
        refine g_goto (pc := 48) C (tgt := 12) dX9_hearers_48 rfl ?_
        refine g_lv [1, 2, 3, 0] rfl ?_
        exact ih x2 (x3 + 1) x_misused h
      · refine g_iload_n (pc := 39) C 2 rfl dX9_hearers_39 ?_
        refine g_iconst (pc := 40) C dX9_hearers_40 ci_1 ?_
        refine g_iload_n (pc := 41) C 3 rfl dX9_hearers_41 ?_
        refine g_ishl (pc := 42) C dX9_hearers_42 ?_
        refine g_ior (pc := 43) C dX9_hearers_43 ?_
        refine g_istore_n (pc := 44) C [(2, .int (x2 ||| ((1 : Int32) <<< (x3 &&& 31)))), (0, .ref (a0 0)), (1, .int n1), (3, .int x3)] dX9_hearers_44 rfl (by decide) rfl ?_
        refine g_iinc (pc := 45) C (j := 3) [(3, .int (x3 + 1)), (2, .int (x2 ||| ((1 : Int32) <<< (x3 &&& 31)))), (0, .ref (a0 0)), (1, .int n1)] dX9_hearers_45 rfl (ii_1 _) (by decide) rfl ?_
        refine g_goto (pc := 48) C (tgt := 12) dX9_hearers_48 rfl ?_
        refine g_lv [2, 3, 1, 0] rfl ?_
        exact ih (x2 ||| ((1 : Int32) <<< (x3 &&& 31))) (x3 + 1) x_misused h
set_option maxRecDepth 100000 in
set_option maxHeartbeats 4000000 in
theorem t_X9_hearers {J : Jt} {a0 : Nat → Nat} {a1 : Nat → Nat} {a2 : Nat → Nat} {k_tape : Nat} {k_trial : Nat} {k_task : Nat} {k_season : Nat} {k_stuffing : Nat} {k_images : Nat} {k_row : Nat} {k_sparePlan : Nat} {k_rule : Nat} {k_spareRule : Nat} {k_notes : Nat} {k_spareNotes : Nat} {x_latest : Value} {x_imageMany : Int32} {x_refusedSteps : Int32} {x_missing : Int32} {x_misused : Int32} {s_year : Int32} {s_wet : Int32} {s_lost : Int32} {s_eaten : Int32} {s_tied : Int32} {s_ripeMany : Int32} {s_gone : Nat → Int32} {s_place : Nat → Int32} {s_heard : Nat → Int32} {s_many : Nat → Int32} {s_lying : Nat → Int32} {s_ripe : Nat → Int32} {p_beds : Int32} {p_letters : Int32} {p_readers : Int32} {p_far : Nat → Int32} {p_drain : Nat → Int32} {p_length : Nat → Int32} {p_words : Nat → Int32} {p_home : Nat → Int32} {n1 : Int32} {ex : Nat} {r : Int32} {o_x_misused : Int32} (hJ : J.1.stackTraces = false) (h : f_X9_hearers x_misused s_heard p_readers n1 = some (ex, r, o_x_misused)) : MtX J yX9_hearers cX9_hearers 4 (some .int) rm_X9_hearers [.ref (a0 0), .int n1] (cs_X9 (a0 0) k_tape (a1 0) k_trial k_task k_season k_stuffing k_images k_row (a2 0) k_sparePlan k_rule k_spareRule k_notes k_spareNotes x_latest x_imageMany x_refusedSteps x_missing x_misused ++ cs_X4 J.2.2.1 a1 s_year s_wet s_lost s_eaten s_tied s_ripeMany s_gone s_place s_heard s_many s_lying s_ripe ++ cs_X2 J.2.2.1 a2 p_beds p_letters p_readers p_far p_drain p_length p_words p_home) ex (some (.int r)) (fun _ : Unit => cs_X9 (a0 0) k_tape (a1 0) k_trial k_task k_season k_stuffing k_images k_row (a2 0) k_sparePlan k_rule k_spareRule k_notes k_spareNotes x_latest x_imageMany x_refusedSteps x_missing o_x_misused ++ cs_X4 J.2.2.1 a1 s_year s_wet s_lost s_eaten s_tied s_ripeMany s_gone s_place s_heard s_many s_lying s_ripe ++ cs_X2 J.2.2.1 a2 p_beds p_letters p_readers p_far p_drain p_length p_words p_home) := by
  refine MtX_of (own := RX9) (by decide) rfl (Nat.le_of_ble_eq_true rfl) rfl (fun Z C E => ?_)
  unfold f_X9_hearers at h
  show G J Z 0 0 (cs_X9 (a0 0) k_tape (a1 0) k_trial k_task k_season k_stuffing k_images k_row (a2 0) k_sparePlan k_rule k_spareRule k_notes k_spareNotes x_latest x_imageMany x_refusedSteps x_missing x_misused ++ cs_X4 J.2.2.1 a1 s_year s_wet s_lost s_eaten s_tied s_ripeMany s_gone s_place s_heard s_many s_lying s_ripe ++ cs_X2 J.2.2.1 a2 p_beds p_letters p_readers p_far p_drain p_length p_words p_home) 4 [(0, .ref (a0 0)), (1, .int n1)] 0 []
  refine g_aload_n (pc := 0) C 0 rfl dX9_hearers_0 ?_
  refine g_iload_n (pc := 1) C 1 rfl dX9_hearers_1 ?_
  refine g_iconst (pc := 2) C dX9_hearers_2 ci_0 ?_
  refine g_bipush (pc := 3) C dX9_hearers_3 cb_15 ?_
  obtain ⟨e2, c3, hc, h⟩ := b2_of h
  refine g_xcallU (pc := 5) C (w' := cs_X9 (a0 0) k_tape (a1 0) k_trial k_task k_season k_stuffing k_images k_row (a2 0) k_sparePlan k_rule k_spareRule k_notes k_spareNotes x_latest x_imageMany x_refusedSteps x_missing c3 ++ cs_X4 J.2.2.1 a1 s_year s_wet s_lost s_eaten s_tied s_ripeMany s_gone s_place s_heard s_many s_lying s_ripe ++ cs_X2 J.2.2.1 a2 p_beds p_letters p_readers p_far p_drain p_length p_words p_home) (As := [.int n1, .int 0, .int 15]) (st := []) (ci := 9) (q0 := 0) rfl rfl (t_X9_needRange (k_tape := k_tape) (k_now := (a1 0)) (k_trial := k_trial) (k_task := k_task) (k_season := k_season) (k_stuffing := k_stuffing) (k_images := k_images) (k_row := k_row) (k_plan := (a2 0)) (k_sparePlan := k_sparePlan) (k_rule := k_rule) (k_spareRule := k_spareRule) (k_notes := k_notes) (k_spareNotes := k_spareNotes) (a0 := a0) (x_latest := x_latest) (x_imageMany := x_imageMany) (x_refusedSteps := x_refusedSteps) (x_missing := x_missing) (x_misused := x_misused) hJ hc) (Sub.blk 3 [cs_X9 (a0 0) k_tape (a1 0) k_trial k_task k_season k_stuffing k_images k_row (a2 0) k_sparePlan k_rule k_spareRule k_notes k_spareNotes x_latest x_imageMany x_refusedSteps x_missing x_misused, cs_X4 J.2.2.1 a1 s_year s_wet s_lost s_eaten s_tied s_ripeMany s_gone s_place s_heard s_many s_lying s_ripe, cs_X2 J.2.2.1 a2 p_beds p_letters p_readers p_far p_drain p_length p_words p_home] [cs_X9 (a0 0) k_tape (a1 0) k_trial k_task k_season k_stuffing k_images k_row (a2 0) k_sparePlan k_rule k_spareRule k_notes k_spareNotes x_latest x_imageMany x_refusedSteps x_missing c3, cs_X4 J.2.2.1 a1 s_year s_wet s_lost s_eaten s_tied s_ripeMany s_gone s_place s_heard s_many s_lying s_ripe, cs_X2 J.2.2.1 a2 p_beds p_letters p_readers p_far p_drain p_length p_words p_home] [1, 2] [0] rfl (by simp only [List.flatten_cons, List.flatten_nil, List.append_nil, List.append_assoc]) (by simp only [List.flatten_cons, List.flatten_nil, List.append_nil, List.append_assoc]) rfl rfl rfl (by decide) (by simp only [List.map_cons, List.map_nil, List.getD_cons_zero, List.getD_cons_succ, List.flatten_cons, List.flatten_nil, List.append_nil, List.append_assoc]) (by simp only [List.map_cons, List.map_nil, List.getD_cons_zero, List.getD_cons_succ, List.flatten_cons, List.flatten_nil, List.append_nil, List.append_assoc])) kw_545 kw_547 kw_2 kw_86 hy_X9_needRange kw_548 rfl (Nat.le_of_ble_eq_true rfl) (Nat.le_of_ble_eq_true rfl) (Nat.le_of_ble_eq_true rfl) (Nat.le_of_ble_eq_true rfl) (Nat.le_of_ble_eq_true rfl) dX9_hearers_5 (fun he => ?_) (fun he => ?_)
  · subst he
    rw [if_pos rfl] at h
    refine g_wid (n' := 1) (k' := 6) (Nat.le_of_ble_eq_true rfl) (Nat.le_of_ble_eq_true rfl) ?_
    refine g_iconst (pc := 8) C dX9_hearers_8 ci_0 ?_
    refine g_istore_n (pc := 9) C [(2, .int 0), (0, .ref (a0 0)), (1, .int n1)] dX9_hearers_9 rfl (by decide) rfl ?_
    refine g_iconst (pc := 10) C dX9_hearers_10 ci_0 ?_
    refine g_istore_n (pc := 11) C [(3, .int 0), (2, .int 0), (0, .ref (a0 0)), (1, .int n1)] dX9_hearers_11 rfl (by decide) rfl ?_
    refine g_lv [2, 3, 1, 0] rfl ?_
    exact j_X9_hearers_12 C hJ E    FU 0 0 c3 h
  · rw [if_neg he] at h
    cases h
    exact gt_out C he E (Nat.le_of_ble_eq_true rfl) (Nat.le_of_ble_eq_true rfl) () rfl
noncomputable def f_X9_news (x_missing : Int32) (x_misused : Int32) (s_gone : Nat → Int32) (s_place : Nat → Int32) (s_heard : Nat → Int32) (p_letters : Int32) (p_readers : Int32) (p_far : Nat → Int32) (p_length : Nat → Int32) (p_words : Nat → Int32) (n1 : Int32) (n2 : Int32) : Option (Nat × Int32 × Int32 × Int32) := b2 (f_X9_needOneOf x_missing n1 p_readers) (fun e1 c2 => if e1 = 0 then b2 (f_X9_needRange x_misused n2 1 30) (fun e3 c4 => if e3 = 0 then b1 (f_X4_toldBy s_gone s_place p_letters p_far p_length p_words n1 n2) (fun v5 => if ixb n1 5 then some (0, v5 &&& ((s_heard n1.toNatClampNeg) ^^^ (-1)), c2, c4) else none) else some (e3, 0, c2, c4)) else some (e1, 0, c2, x_misused))
def rm_X9_news : Room := { frames := 10, cells := 2, slots := 12, locals := 143 }
set_option maxRecDepth 100000 in
set_option maxHeartbeats 4000000 in
theorem t_X9_news {J : Jt} {a0 : Nat → Nat} {a1 : Nat → Nat} {a2 : Nat → Nat} {k_tape : Nat} {k_trial : Nat} {k_task : Nat} {k_season : Nat} {k_stuffing : Nat} {k_images : Nat} {k_row : Nat} {k_sparePlan : Nat} {k_rule : Nat} {k_spareRule : Nat} {k_notes : Nat} {k_spareNotes : Nat} {x_latest : Value} {x_imageMany : Int32} {x_refusedSteps : Int32} {x_missing : Int32} {x_misused : Int32} {s_year : Int32} {s_wet : Int32} {s_lost : Int32} {s_eaten : Int32} {s_tied : Int32} {s_ripeMany : Int32} {s_gone : Nat → Int32} {s_place : Nat → Int32} {s_heard : Nat → Int32} {s_many : Nat → Int32} {s_lying : Nat → Int32} {s_ripe : Nat → Int32} {p_beds : Int32} {p_letters : Int32} {p_readers : Int32} {p_far : Nat → Int32} {p_drain : Nat → Int32} {p_length : Nat → Int32} {p_words : Nat → Int32} {p_home : Nat → Int32} {n1 : Int32} {n2 : Int32} {ex : Nat} {r : Int32} {o_x_missing : Int32} {o_x_misused : Int32} (hJ : J.1.stackTraces = false) (h : f_X9_news x_missing x_misused s_gone s_place s_heard p_letters p_readers p_far p_length p_words n1 n2 = some (ex, r, o_x_missing, o_x_misused)) : MtX J yX9_news cX9_news 3 (some .int) rm_X9_news [.ref (a0 0), .int n1, .int n2] (cs_X9 (a0 0) k_tape (a1 0) k_trial k_task k_season k_stuffing k_images k_row (a2 0) k_sparePlan k_rule k_spareRule k_notes k_spareNotes x_latest x_imageMany x_refusedSteps x_missing x_misused ++ cs_X4 J.2.2.1 a1 s_year s_wet s_lost s_eaten s_tied s_ripeMany s_gone s_place s_heard s_many s_lying s_ripe ++ cs_X2 J.2.2.1 a2 p_beds p_letters p_readers p_far p_drain p_length p_words p_home) ex (some (.int r)) (fun _ : Unit => cs_X9 (a0 0) k_tape (a1 0) k_trial k_task k_season k_stuffing k_images k_row (a2 0) k_sparePlan k_rule k_spareRule k_notes k_spareNotes x_latest x_imageMany x_refusedSteps o_x_missing o_x_misused ++ cs_X4 J.2.2.1 a1 s_year s_wet s_lost s_eaten s_tied s_ripeMany s_gone s_place s_heard s_many s_lying s_ripe ++ cs_X2 J.2.2.1 a2 p_beds p_letters p_readers p_far p_drain p_length p_words p_home) := by
  refine MtX_of (own := RX9) (by decide) rfl (Nat.le_of_ble_eq_true rfl) rfl (fun Z C E => ?_)
  unfold f_X9_news at h
  show G J Z 0 0 (cs_X9 (a0 0) k_tape (a1 0) k_trial k_task k_season k_stuffing k_images k_row (a2 0) k_sparePlan k_rule k_spareRule k_notes k_spareNotes x_latest x_imageMany x_refusedSteps x_missing x_misused ++ cs_X4 J.2.2.1 a1 s_year s_wet s_lost s_eaten s_tied s_ripeMany s_gone s_place s_heard s_many s_lying s_ripe ++ cs_X2 J.2.2.1 a2 p_beds p_letters p_readers p_far p_drain p_length p_words p_home) 3 [(0, .ref (a0 0)), (1, .int n1), (2, .int n2)] 0 []
  refine g_aload_n (pc := 0) C 0 rfl dX9_news_0 ?_
  refine g_iload_n (pc := 1) C 1 rfl dX9_news_1 ?_
  refine g_aload_n (pc := 2) C 0 rfl dX9_news_2 ?_
  refine g_get (pc := 3) C FOK_X9 0 rfl rfl 8 (by decide) kw_375 rfl dX9_news_3 ?_
  refine g_get (pc := 6) C FOK_X2 8 rfl rfl 2 (by decide) kw_289 rfl dX9_news_6 ?_
  obtain ⟨e1, c2, hc, h⟩ := b2_of h
  refine g_xcallU (pc := 9) C (w' := cs_X9 (a0 0) k_tape (a1 0) k_trial k_task k_season k_stuffing k_images k_row (a2 0) k_sparePlan k_rule k_spareRule k_notes k_spareNotes x_latest x_imageMany x_refusedSteps c2 x_misused ++ cs_X4 J.2.2.1 a1 s_year s_wet s_lost s_eaten s_tied s_ripeMany s_gone s_place s_heard s_many s_lying s_ripe ++ cs_X2 J.2.2.1 a2 p_beds p_letters p_readers p_far p_drain p_length p_words p_home) (As := [.int n1, .int p_readers]) (st := []) (ci := 9) (q0 := 0) rfl rfl (t_X9_needOneOf (k_tape := k_tape) (k_now := (a1 0)) (k_trial := k_trial) (k_task := k_task) (k_season := k_season) (k_stuffing := k_stuffing) (k_images := k_images) (k_row := k_row) (k_plan := (a2 0)) (k_sparePlan := k_sparePlan) (k_rule := k_rule) (k_spareRule := k_spareRule) (k_notes := k_notes) (k_spareNotes := k_spareNotes) (a0 := a0) (x_latest := x_latest) (x_imageMany := x_imageMany) (x_refusedSteps := x_refusedSteps) (x_missing := x_missing) (x_misused := x_misused) hJ hc) (Sub.blk 3 [cs_X9 (a0 0) k_tape (a1 0) k_trial k_task k_season k_stuffing k_images k_row (a2 0) k_sparePlan k_rule k_spareRule k_notes k_spareNotes x_latest x_imageMany x_refusedSteps x_missing x_misused, cs_X4 J.2.2.1 a1 s_year s_wet s_lost s_eaten s_tied s_ripeMany s_gone s_place s_heard s_many s_lying s_ripe, cs_X2 J.2.2.1 a2 p_beds p_letters p_readers p_far p_drain p_length p_words p_home] [cs_X9 (a0 0) k_tape (a1 0) k_trial k_task k_season k_stuffing k_images k_row (a2 0) k_sparePlan k_rule k_spareRule k_notes k_spareNotes x_latest x_imageMany x_refusedSteps c2 x_misused, cs_X4 J.2.2.1 a1 s_year s_wet s_lost s_eaten s_tied s_ripeMany s_gone s_place s_heard s_many s_lying s_ripe, cs_X2 J.2.2.1 a2 p_beds p_letters p_readers p_far p_drain p_length p_words p_home] [1, 2] [0] rfl (by simp only [List.flatten_cons, List.flatten_nil, List.append_nil, List.append_assoc]) (by simp only [List.flatten_cons, List.flatten_nil, List.append_nil, List.append_assoc]) rfl rfl rfl (by decide) (by simp only [List.map_cons, List.map_nil, List.getD_cons_zero, List.getD_cons_succ, List.flatten_cons, List.flatten_nil, List.append_nil, List.append_assoc]) (by simp only [List.map_cons, List.map_nil, List.getD_cons_zero, List.getD_cons_succ, List.flatten_cons, List.flatten_nil, List.append_nil, List.append_assoc])) kw_956 kw_958 kw_12 kw_86 hy_X9_needOneOf kw_959 rfl (Nat.le_of_ble_eq_true rfl) (Nat.le_of_ble_eq_true rfl) (Nat.le_of_ble_eq_true rfl) (Nat.le_of_ble_eq_true rfl) (Nat.le_of_ble_eq_true rfl) dX9_news_9 (fun he => ?_) (fun he => ?_)
  · subst he
    rw [if_pos rfl] at h
    refine g_wid (n' := 1) (k' := 6) (Nat.le_of_ble_eq_true rfl) (Nat.le_of_ble_eq_true rfl) ?_
    refine g_aload_n (pc := 12) C 0 rfl dX9_news_12 ?_
    refine g_iload_n (pc := 13) C 2 rfl dX9_news_13 ?_
    refine g_iconst (pc := 14) C dX9_news_14 ci_1 ?_
    refine g_bipush (pc := 15) C dX9_news_15 cb_30 ?_
    obtain ⟨e3, c4, hc, h⟩ := b2_of h
    refine g_xcallU (pc := 17) C (w' := cs_X9 (a0 0) k_tape (a1 0) k_trial k_task k_season k_stuffing k_images k_row (a2 0) k_sparePlan k_rule k_spareRule k_notes k_spareNotes x_latest x_imageMany x_refusedSteps c2 c4 ++ cs_X4 J.2.2.1 a1 s_year s_wet s_lost s_eaten s_tied s_ripeMany s_gone s_place s_heard s_many s_lying s_ripe ++ cs_X2 J.2.2.1 a2 p_beds p_letters p_readers p_far p_drain p_length p_words p_home) (As := [.int n2, .int 1, .int 30]) (st := []) (ci := 9) (q0 := 0) rfl rfl (t_X9_needRange (k_tape := k_tape) (k_now := (a1 0)) (k_trial := k_trial) (k_task := k_task) (k_season := k_season) (k_stuffing := k_stuffing) (k_images := k_images) (k_row := k_row) (k_plan := (a2 0)) (k_sparePlan := k_sparePlan) (k_rule := k_rule) (k_spareRule := k_spareRule) (k_notes := k_notes) (k_spareNotes := k_spareNotes) (a0 := a0) (x_latest := x_latest) (x_imageMany := x_imageMany) (x_refusedSteps := x_refusedSteps) (x_missing := c2) (x_misused := x_misused) hJ hc) (Sub.blk 3 [cs_X9 (a0 0) k_tape (a1 0) k_trial k_task k_season k_stuffing k_images k_row (a2 0) k_sparePlan k_rule k_spareRule k_notes k_spareNotes x_latest x_imageMany x_refusedSteps c2 x_misused, cs_X4 J.2.2.1 a1 s_year s_wet s_lost s_eaten s_tied s_ripeMany s_gone s_place s_heard s_many s_lying s_ripe, cs_X2 J.2.2.1 a2 p_beds p_letters p_readers p_far p_drain p_length p_words p_home] [cs_X9 (a0 0) k_tape (a1 0) k_trial k_task k_season k_stuffing k_images k_row (a2 0) k_sparePlan k_rule k_spareRule k_notes k_spareNotes x_latest x_imageMany x_refusedSteps c2 c4, cs_X4 J.2.2.1 a1 s_year s_wet s_lost s_eaten s_tied s_ripeMany s_gone s_place s_heard s_many s_lying s_ripe, cs_X2 J.2.2.1 a2 p_beds p_letters p_readers p_far p_drain p_length p_words p_home] [1, 2] [0] rfl (by simp only [List.flatten_cons, List.flatten_nil, List.append_nil, List.append_assoc]) (by simp only [List.flatten_cons, List.flatten_nil, List.append_nil, List.append_assoc]) rfl rfl rfl (by decide) (by simp only [List.map_cons, List.map_nil, List.getD_cons_zero, List.getD_cons_succ, List.flatten_cons, List.flatten_nil, List.append_nil, List.append_assoc]) (by simp only [List.map_cons, List.map_nil, List.getD_cons_zero, List.getD_cons_succ, List.flatten_cons, List.flatten_nil, List.append_nil, List.append_assoc])) kw_545 kw_547 kw_2 kw_86 hy_X9_needRange kw_548 rfl (Nat.le_of_ble_eq_true rfl) (Nat.le_of_ble_eq_true rfl) (Nat.le_of_ble_eq_true rfl) (Nat.le_of_ble_eq_true rfl) (Nat.le_of_ble_eq_true rfl) dX9_news_17 (fun he => ?_) (fun he => ?_)
    · subst he
      rw [if_pos rfl] at h
      refine g_wid (n' := 2) (k' := 12) (Nat.le_of_ble_eq_true rfl) (Nat.le_of_ble_eq_true rfl) ?_
      refine g_aload_n (pc := 20) C 0 rfl dX9_news_20 ?_
      refine g_get (pc := 21) C FOK_X9 0 rfl rfl 1 (by decide) kw_368 rfl dX9_news_21 ?_
      refine g_aload_n (pc := 24) C 0 rfl dX9_news_24 ?_
      refine g_get (pc := 25) C FOK_X9 0 rfl rfl 8 (by decide) kw_375 rfl dX9_news_25 ?_
      refine g_iload_n (pc := 28) C 1 rfl dX9_news_28 ?_
      refine g_iload_n (pc := 29) C 2 rfl dX9_news_29 ?_
      obtain ⟨v5, hc, h⟩ := b1_of h
      refine g_callV (pc := 30) C (w' := cs_X9 (a0 0) k_tape (a1 0) k_trial k_task k_season k_stuffing k_images k_row (a2 0) k_sparePlan k_rule k_spareRule k_notes k_spareNotes x_latest x_imageMany x_refusedSteps c2 c4 ++ cs_X4 J.2.2.1 a1 s_year s_wet s_lost s_eaten s_tied s_ripeMany s_gone s_place s_heard s_many s_lying s_ripe ++ cs_X2 J.2.2.1 a2 p_beds p_letters p_readers p_far p_drain p_length p_words p_home) (As := [.ref (a2 0), .int n1, .int n2]) (st := []) (ci := 4) (q0 := 1) rfl rfl (t_X4_toldBy (a0 := a1) (a1 := a2) (s_year := s_year) (s_wet := s_wet) (s_lost := s_lost) (s_eaten := s_eaten) (s_tied := s_tied) (s_ripeMany := s_ripeMany) (s_gone := s_gone) (s_place := s_place) (s_heard := s_heard) (s_many := s_many) (s_lying := s_lying) (s_ripe := s_ripe) (p_beds := p_beds) (p_letters := p_letters) (p_readers := p_readers) (p_far := p_far) (p_drain := p_drain) (p_length := p_length) (p_words := p_words) (p_home := p_home) hc) (Sub.blk 3 [cs_X9 (a0 0) k_tape (a1 0) k_trial k_task k_season k_stuffing k_images k_row (a2 0) k_sparePlan k_rule k_spareRule k_notes k_spareNotes x_latest x_imageMany x_refusedSteps c2 c4, cs_X4 J.2.2.1 a1 s_year s_wet s_lost s_eaten s_tied s_ripeMany s_gone s_place s_heard s_many s_lying s_ripe, cs_X2 J.2.2.1 a2 p_beds p_letters p_readers p_far p_drain p_length p_words p_home] [cs_X9 (a0 0) k_tape (a1 0) k_trial k_task k_season k_stuffing k_images k_row (a2 0) k_sparePlan k_rule k_spareRule k_notes k_spareNotes x_latest x_imageMany x_refusedSteps c2 c4, cs_X4 J.2.2.1 a1 s_year s_wet s_lost s_eaten s_tied s_ripeMany s_gone s_place s_heard s_many s_lying s_ripe, cs_X2 J.2.2.1 a2 p_beds p_letters p_readers p_far p_drain p_length p_words p_home] [0] [1, 2] rfl (by simp only [List.flatten_cons, List.flatten_nil, List.append_nil, List.append_assoc]) (by simp only [List.flatten_cons, List.flatten_nil, List.append_nil, List.append_assoc]) rfl rfl rfl (by decide) (by simp only [List.map_cons, List.map_nil, List.getD_cons_zero, List.getD_cons_succ, List.flatten_cons, List.flatten_nil, List.append_nil, List.append_assoc]) (by simp only [List.map_cons, List.map_nil, List.getD_cons_zero, List.getD_cons_succ, List.flatten_cons, List.flatten_nil, List.append_nil, List.append_assoc])) kw_1184 kw_861 kw_862 kw_88 hy_X4_toldBy kw_863 rfl (Nat.le_of_ble_eq_true rfl) (Nat.le_of_ble_eq_true rfl) (Nat.le_of_ble_eq_true rfl) (Nat.le_of_ble_eq_true rfl) (Nat.le_of_ble_eq_true rfl) dX9_news_30 ?_
      refine g_aload_n (pc := 33) C 0 rfl dX9_news_33 ?_
      refine g_get (pc := 34) C FOK_X9 0 rfl rfl 1 (by decide) kw_368 rfl dX9_news_34 ?_
      refine g_get (pc := 37) C FOK_X4 1 rfl rfl 8 (by decide) kw_171 rfl dX9_news_37 ?_
      refine g_iload_n (pc := 40) C 1 rfl dX9_news_40 ?_
      obtain ⟨hi, h⟩ := ix_of h
      refine g_iald (pc := 41) C 4 rfl hi dX9_news_41 ?_
      refine g_iconst (pc := 42) C dX9_news_42 ci_m1 ?_
      refine g_ixor (pc := 43) C dX9_news_43 ?_
      refine g_iand (pc := 44) C dX9_news_44 ?_
      cases h
      exact g_iretX C E () rfl dX9_news_45
    · rw [if_neg he] at h
      cases h
      exact gt_out C he E (Nat.le_of_ble_eq_true rfl) (Nat.le_of_ble_eq_true rfl) () rfl
  · rw [if_neg he] at h
    cases h
    exact gt_out C he E (Nat.le_of_ble_eq_true rfl) (Nat.le_of_ble_eq_true rfl) () rfl
noncomputable def f_X9_full_23  (s_many : Nat → Int32) (p_beds : Int32) (n1 : Int32) : Nat → Int32 → Int32 → Int32 → Int32 → Option (Nat × Int32 × Int32)
  | 0, _, _, _, _ => none
  | n + 1, x2, x3, x4, x_misused => if p_beds ≤ x4 then some (0, x3, x_misused) else if ixb x4 6 then if (s_many x4.toNatClampNeg) = x2 then f_X9_full_23 s_many p_beds n1 n x2 (x3 ||| ((1 : Int32) <<< (x4 &&& 31))) (x4 + 1) x_misused else f_X9_full_23 s_many p_beds n1 n x2 x3 (x4 + 1) x_misused else none
noncomputable def f_X9_full (x_misused : Int32) (s_many : Nat → Int32) (p_beds : Int32) (n1 : Int32) : Option (Nat × Int32 × Int32) := b2 (f_X9_needRange x_misused n1 0 1) (fun e1 c2 => if e1 = 0 then if n1 = 0 then f_X9_full_23 s_many p_beds n1 FU 12 0 0 c2 else f_X9_full_23 s_many p_beds n1 FU 0 0 0 c2 else some (e1, 0, c2))
def rm_X9_full : Room := { frames := 10, cells := 1, slots := 6, locals := 143 }
set_option maxRecDepth 100000 in
set_option maxHeartbeats 4000000 in
theorem j_X9_full_23 {J : Jt} {Z : Zt} {a0 : Nat → Nat} {a1 : Nat → Nat} {a2 : Nat → Nat} {k_tape : Nat} {k_trial : Nat} {k_task : Nat} {k_season : Nat} {k_stuffing : Nat} {k_images : Nat} {k_row : Nat} {k_sparePlan : Nat} {k_rule : Nat} {k_spareRule : Nat} {k_notes : Nat} {k_spareNotes : Nat} {x_latest : Value} {x_imageMany : Int32} {x_refusedSteps : Int32} {x_missing : Int32} {s_year : Int32} {s_wet : Int32} {s_lost : Int32} {s_eaten : Int32} {s_tied : Int32} {s_ripeMany : Int32} {s_gone : Nat → Int32} {s_place : Nat → Int32} {s_heard : Nat → Int32} {s_many : Nat → Int32} {s_lying : Nat → Int32} {s_ripe : Nat → Int32} {p_beds : Int32} {p_letters : Int32} {p_readers : Int32} {p_far : Nat → Int32} {p_drain : Nat → Int32} {p_length : Nat → Int32} {p_words : Nat → Int32} {p_home : Nat → Int32} {n1 : Int32} {ex : Nat} {r : Int32} {o_x_misused : Int32} (C : Cx J Z cX9_full 5 RX9 (some .int) rm_X9_full) (hJ : J.1.stackTraces = false) (E : EzX J Z 1 6 ex (some (.int r)) (fun _ : Unit => cs_X9 (a0 0) k_tape (a1 0) k_trial k_task k_season k_stuffing k_images k_row (a2 0) k_sparePlan k_rule k_spareRule k_notes k_spareNotes x_latest x_imageMany x_refusedSteps x_missing o_x_misused ++ cs_X4 J.2.2.1 a1 s_year s_wet s_lost s_eaten s_tied s_ripeMany s_gone s_place s_heard s_many s_lying s_ripe ++ cs_X2 J.2.2.1 a2 p_beds p_letters p_readers p_far p_drain p_length p_words p_home)) : ∀ (n : Nat) (x2 : Int32) (x3 : Int32) (x4 : Int32) (x_misused : Int32), f_X9_full_23 s_many p_beds n1 n x2 x3 x4 x_misused = some (ex, r, o_x_misused) → G J Z 1 6 (cs_X9 (a0 0) k_tape (a1 0) k_trial k_task k_season k_stuffing k_images k_row (a2 0) k_sparePlan k_rule k_spareRule k_notes k_spareNotes x_latest x_imageMany x_refusedSteps x_missing x_misused ++ cs_X4 J.2.2.1 a1 s_year s_wet s_lost s_eaten s_tied s_ripeMany s_gone s_place s_heard s_many s_lying s_ripe ++ cs_X2 J.2.2.1 a2 p_beds p_letters p_readers p_far p_drain p_length p_words p_home) 5 [(0, .ref (a0 0)), (2, .int x2), (3, .int x3), (4, .int x4)] 23 [] := by
  intro n
  induction n with
  | zero =>
    intro x2 x3 x4 x_misused h
    rw [f_X9_full_23] at h
    cases h
  | succ n ih =>
    intro x2 x3 x4 x_misused h
    rw [f_X9_full_23] at h
    refine g_iload (pc := 23) C 3 rfl dX9_full_23 ?_
    refine g_aload_n (pc := 25) C 0 rfl dX9_full_25 ?_
    refine g_get (pc := 26) C FOK_X9 0 rfl rfl 8 (by decide) kw_375 rfl dX9_full_26 ?_
    refine g_get (pc := 29) C FOK_X2 8 rfl rfl 0 (by decide) kw_279 rfl dX9_full_29 ?_
    refine g_icmp_ge (pc := 32) C (tgt := 62) dX9_full_32 rfl h (fun h => ?_) (fun h => ?_)
    · refine g_iload_n (pc := 62) C 2 rfl dX9_full_62 ?_
      cases h
      exact g_iretX C E () rfl dX9_full_63
    · refine g_aload_n (pc := 35) C 0 rfl dX9_full_35 ?_
      refine g_get (pc := 36) C FOK_X9 0 rfl rfl 1 (by decide) kw_368 rfl dX9_full_36 ?_
      refine g_get (pc := 39) C FOK_X4 1 rfl rfl 9 (by decide) kw_173 rfl dX9_full_39 ?_
      refine g_iload (pc := 42) C 3 rfl dX9_full_42 ?_
      obtain ⟨hi, h⟩ := ix_of h
      refine g_iald (pc := 44) C 5 rfl hi dX9_full_44 ?_
      refine g_iload_n (pc := 45) C 1 rfl dX9_full_45 ?_
      refine g_icmp_ne (pc := 46) C (tgt := 56) dX9_full_46 rfl h (fun h => ?_) (fun h => ?_)
      · refine g_iinc (pc := 56) C (j := 3) [(4, .int (x4 + 1)), (0, .ref (a0 0)), (2, .int x2), (3, .int x3)] dX9_full_56 rfl (ii_1 _) (by decide) rfl ?_
        refine g_goto (pc := 59) C (tgt := 23) dX9_full_59 rfl ?_
        refine g_lv [1, 2, 3, 0] rfl ?_
        exact ih x2 x3 (x4 + 1) x_misused h
      · refine g_iload_n (pc := 49) C 2 rfl dX9_full_49 ?_
        refine g_iconst (pc := 50) C dX9_full_50 ci_1 ?_
        refine g_iload (pc := 51) C 3 rfl dX9_full_51 ?_
        refine g_ishl (pc := 53) C dX9_full_53 ?_
        refine g_ior (pc := 54) C dX9_full_54 ?_
        refine g_istore_n (pc := 55) C [(3, .int (x3 ||| ((1 : Int32) <<< (x4 &&& 31)))), (0, .ref (a0 0)), (2, .int x2), (4, .int x4)] dX9_full_55 rfl (by decide) rfl ?_
        refine g_iinc (pc := 56) C (j := 3) [(4, .int (x4 + 1)), (3, .int (x3 ||| ((1 : Int32) <<< (x4 &&& 31)))), (0, .ref (a0 0)), (2, .int x2)] dX9_full_56 rfl (ii_1 _) (by decide) rfl ?_
        refine g_goto (pc := 59) C (tgt := 23) dX9_full_59 rfl ?_
        refine g_lv [2, 3, 1, 0] rfl ?_
        exact ih x2 (x3 ||| ((1 : Int32) <<< (x4 &&& 31))) (x4 + 1) x_misused h
set_option maxRecDepth 100000 in
set_option maxHeartbeats 4000000 in
theorem t_X9_full {J : Jt} {a0 : Nat → Nat} {a1 : Nat → Nat} {a2 : Nat → Nat} {k_tape : Nat} {k_trial : Nat} {k_task : Nat} {k_season : Nat} {k_stuffing : Nat} {k_images : Nat} {k_row : Nat} {k_sparePlan : Nat} {k_rule : Nat} {k_spareRule : Nat} {k_notes : Nat} {k_spareNotes : Nat} {x_latest : Value} {x_imageMany : Int32} {x_refusedSteps : Int32} {x_missing : Int32} {x_misused : Int32} {s_year : Int32} {s_wet : Int32} {s_lost : Int32} {s_eaten : Int32} {s_tied : Int32} {s_ripeMany : Int32} {s_gone : Nat → Int32} {s_place : Nat → Int32} {s_heard : Nat → Int32} {s_many : Nat → Int32} {s_lying : Nat → Int32} {s_ripe : Nat → Int32} {p_beds : Int32} {p_letters : Int32} {p_readers : Int32} {p_far : Nat → Int32} {p_drain : Nat → Int32} {p_length : Nat → Int32} {p_words : Nat → Int32} {p_home : Nat → Int32} {n1 : Int32} {ex : Nat} {r : Int32} {o_x_misused : Int32} (hJ : J.1.stackTraces = false) (h : f_X9_full x_misused s_many p_beds n1 = some (ex, r, o_x_misused)) : MtX J yX9_full cX9_full 5 (some .int) rm_X9_full [.ref (a0 0), .int n1] (cs_X9 (a0 0) k_tape (a1 0) k_trial k_task k_season k_stuffing k_images k_row (a2 0) k_sparePlan k_rule k_spareRule k_notes k_spareNotes x_latest x_imageMany x_refusedSteps x_missing x_misused ++ cs_X4 J.2.2.1 a1 s_year s_wet s_lost s_eaten s_tied s_ripeMany s_gone s_place s_heard s_many s_lying s_ripe ++ cs_X2 J.2.2.1 a2 p_beds p_letters p_readers p_far p_drain p_length p_words p_home) ex (some (.int r)) (fun _ : Unit => cs_X9 (a0 0) k_tape (a1 0) k_trial k_task k_season k_stuffing k_images k_row (a2 0) k_sparePlan k_rule k_spareRule k_notes k_spareNotes x_latest x_imageMany x_refusedSteps x_missing o_x_misused ++ cs_X4 J.2.2.1 a1 s_year s_wet s_lost s_eaten s_tied s_ripeMany s_gone s_place s_heard s_many s_lying s_ripe ++ cs_X2 J.2.2.1 a2 p_beds p_letters p_readers p_far p_drain p_length p_words p_home) := by
  refine MtX_of (own := RX9) (by decide) rfl (Nat.le_of_ble_eq_true rfl) rfl (fun Z C E => ?_)
  unfold f_X9_full at h
  show G J Z 0 0 (cs_X9 (a0 0) k_tape (a1 0) k_trial k_task k_season k_stuffing k_images k_row (a2 0) k_sparePlan k_rule k_spareRule k_notes k_spareNotes x_latest x_imageMany x_refusedSteps x_missing x_misused ++ cs_X4 J.2.2.1 a1 s_year s_wet s_lost s_eaten s_tied s_ripeMany s_gone s_place s_heard s_many s_lying s_ripe ++ cs_X2 J.2.2.1 a2 p_beds p_letters p_readers p_far p_drain p_length p_words p_home) 5 [(0, .ref (a0 0)), (1, .int n1)] 0 []
  refine g_aload_n (pc := 0) C 0 rfl dX9_full_0 ?_
  refine g_iload_n (pc := 1) C 1 rfl dX9_full_1 ?_
  refine g_iconst (pc := 2) C dX9_full_2 ci_0 ?_
  refine g_iconst (pc := 3) C dX9_full_3 ci_1 ?_
  obtain ⟨e1, c2, hc, h⟩ := b2_of h
  refine g_xcallU (pc := 4) C (w' := cs_X9 (a0 0) k_tape (a1 0) k_trial k_task k_season k_stuffing k_images k_row (a2 0) k_sparePlan k_rule k_spareRule k_notes k_spareNotes x_latest x_imageMany x_refusedSteps x_missing c2 ++ cs_X4 J.2.2.1 a1 s_year s_wet s_lost s_eaten s_tied s_ripeMany s_gone s_place s_heard s_many s_lying s_ripe ++ cs_X2 J.2.2.1 a2 p_beds p_letters p_readers p_far p_drain p_length p_words p_home) (As := [.int n1, .int 0, .int 1]) (st := []) (ci := 9) (q0 := 0) rfl rfl (t_X9_needRange (k_tape := k_tape) (k_now := (a1 0)) (k_trial := k_trial) (k_task := k_task) (k_season := k_season) (k_stuffing := k_stuffing) (k_images := k_images) (k_row := k_row) (k_plan := (a2 0)) (k_sparePlan := k_sparePlan) (k_rule := k_rule) (k_spareRule := k_spareRule) (k_notes := k_notes) (k_spareNotes := k_spareNotes) (a0 := a0) (x_latest := x_latest) (x_imageMany := x_imageMany) (x_refusedSteps := x_refusedSteps) (x_missing := x_missing) (x_misused := x_misused) hJ hc) (Sub.blk 3 [cs_X9 (a0 0) k_tape (a1 0) k_trial k_task k_season k_stuffing k_images k_row (a2 0) k_sparePlan k_rule k_spareRule k_notes k_spareNotes x_latest x_imageMany x_refusedSteps x_missing x_misused, cs_X4 J.2.2.1 a1 s_year s_wet s_lost s_eaten s_tied s_ripeMany s_gone s_place s_heard s_many s_lying s_ripe, cs_X2 J.2.2.1 a2 p_beds p_letters p_readers p_far p_drain p_length p_words p_home] [cs_X9 (a0 0) k_tape (a1 0) k_trial k_task k_season k_stuffing k_images k_row (a2 0) k_sparePlan k_rule k_spareRule k_notes k_spareNotes x_latest x_imageMany x_refusedSteps x_missing c2, cs_X4 J.2.2.1 a1 s_year s_wet s_lost s_eaten s_tied s_ripeMany s_gone s_place s_heard s_many s_lying s_ripe, cs_X2 J.2.2.1 a2 p_beds p_letters p_readers p_far p_drain p_length p_words p_home] [1, 2] [0] rfl (by simp only [List.flatten_cons, List.flatten_nil, List.append_nil, List.append_assoc]) (by simp only [List.flatten_cons, List.flatten_nil, List.append_nil, List.append_assoc]) rfl rfl rfl (by decide) (by simp only [List.map_cons, List.map_nil, List.getD_cons_zero, List.getD_cons_succ, List.flatten_cons, List.flatten_nil, List.append_nil, List.append_assoc]) (by simp only [List.map_cons, List.map_nil, List.getD_cons_zero, List.getD_cons_succ, List.flatten_cons, List.flatten_nil, List.append_nil, List.append_assoc])) kw_545 kw_547 kw_2 kw_86 hy_X9_needRange kw_548 rfl (Nat.le_of_ble_eq_true rfl) (Nat.le_of_ble_eq_true rfl) (Nat.le_of_ble_eq_true rfl) (Nat.le_of_ble_eq_true rfl) (Nat.le_of_ble_eq_true rfl) dX9_full_4 (fun he => ?_) (fun he => ?_)
  · subst he
    rw [if_pos rfl] at h
    refine g_wid (n' := 1) (k' := 6) (Nat.le_of_ble_eq_true rfl) (Nat.le_of_ble_eq_true rfl) ?_
    refine g_iload_n (pc := 7) C 1 rfl dX9_full_7 ?_
    refine g_if_ne (pc := 8) C (tgt := 16) dX9_full_8 rfl h (fun h => ?_) (fun h => ?_)
    · refine g_iconst (pc := 16) C dX9_full_16 ci_0 ?_
      refine g_istore_n (pc := 17) C [(2, .int 0), (0, .ref (a0 0)), (1, .int n1)] dX9_full_17 rfl (by decide) rfl ?_
      refine g_iconst (pc := 18) C dX9_full_18 ci_0 ?_
      refine g_istore_n (pc := 19) C [(3, .int 0), (2, .int 0), (0, .ref (a0 0)), (1, .int n1)] dX9_full_19 rfl (by decide) rfl ?_
      refine g_iconst (pc := 20) C dX9_full_20 ci_0 ?_
      refine g_istore (pc := 21) C [(4, .int 0), (3, .int 0), (2, .int 0), (0, .ref (a0 0)), (1, .int n1)] dX9_full_21 (by decide) rfl ?_
      refine g_lv [3, 2, 1, 0] rfl ?_
      exact j_X9_full_23 C hJ E    FU 0 0 0 c2 h
    · refine g_bipush (pc := 11) C dX9_full_11 cb_12 ?_
      refine g_goto (pc := 13) C (tgt := 17) dX9_full_13 rfl ?_
      refine g_istore_n (pc := 17) C [(2, .int 12), (0, .ref (a0 0)), (1, .int n1)] dX9_full_17 rfl (by decide) rfl ?_
      refine g_iconst (pc := 18) C dX9_full_18 ci_0 ?_
      refine g_istore_n (pc := 19) C [(3, .int 0), (2, .int 12), (0, .ref (a0 0)), (1, .int n1)] dX9_full_19 rfl (by decide) rfl ?_
      refine g_iconst (pc := 20) C dX9_full_20 ci_0 ?_
      refine g_istore (pc := 21) C [(4, .int 0), (3, .int 0), (2, .int 12), (0, .ref (a0 0)), (1, .int n1)] dX9_full_21 (by decide) rfl ?_
      refine g_lv [3, 2, 1, 0] rfl ?_
      exact j_X9_full_23 C hJ E    FU 12 0 0 c2 h
  · rw [if_neg he] at h
    cases h
    exact gt_out C he E (Nat.le_of_ble_eq_true rfl) (Nat.le_of_ble_eq_true rfl) () rfl
noncomputable def f_X9_drains_16  (s_gone : Nat → Int32) (p_beds : Int32) (p_letters : Int32) (p_drain : Nat → Int32) (p_length : Nat → Int32) (n1 : Int32) : Nat → Int32 → Int32 → Int32 → Option (Nat × Int32 × Int32)
  | 0, _, _, _ => none
  | n + 1, x2, x3, x_missing => if p_letters ≤ x3 then some (0, x2, x_missing) else if ixb x3 6 then if (p_drain x3.toNatClampNeg) = n1 then b1 (f_X4_leftOf s_gone p_length x3) (fun v1 => if v1 ≤ 0 then f_X9_drains_16 s_gone p_beds p_letters p_drain p_length n1 n x2 (x3 + 1) x_missing else f_X9_drains_16 s_gone p_beds p_letters p_drain p_length n1 n (x2 ||| ((1 : Int32) <<< (x3 &&& 31))) (x3 + 1) x_missing) else f_X9_drains_16 s_gone p_beds p_letters p_drain p_length n1 n x2 (x3 + 1) x_missing else none
noncomputable def f_X9_drains (x_missing : Int32) (s_gone : Nat → Int32) (p_beds : Int32) (p_letters : Int32) (p_drain : Nat → Int32) (p_length : Nat → Int32) (n1 : Int32) : Option (Nat × Int32 × Int32) := b2 (f_X9_needOneOf x_missing n1 p_beds) (fun e2 c3 => if e2 = 0 then f_X9_drains_16 s_gone p_beds p_letters p_drain p_length n1 FU 0 0 c3 else some (e2, 0, c3))
def rm_X9_drains : Room := { frames := 10, cells := 1, slots := 6, locals := 142 }
set_option maxRecDepth 100000 in
set_option maxHeartbeats 4000000 in
theorem j_X9_drains_16 {J : Jt} {Z : Zt} {a0 : Nat → Nat} {a1 : Nat → Nat} {a2 : Nat → Nat} {k_tape : Nat} {k_trial : Nat} {k_task : Nat} {k_season : Nat} {k_stuffing : Nat} {k_images : Nat} {k_row : Nat} {k_sparePlan : Nat} {k_rule : Nat} {k_spareRule : Nat} {k_notes : Nat} {k_spareNotes : Nat} {x_latest : Value} {x_imageMany : Int32} {x_refusedSteps : Int32} {x_misused : Int32} {s_year : Int32} {s_wet : Int32} {s_lost : Int32} {s_eaten : Int32} {s_tied : Int32} {s_ripeMany : Int32} {s_gone : Nat → Int32} {s_place : Nat → Int32} {s_heard : Nat → Int32} {s_many : Nat → Int32} {s_lying : Nat → Int32} {s_ripe : Nat → Int32} {p_beds : Int32} {p_letters : Int32} {p_readers : Int32} {p_far : Nat → Int32} {p_drain : Nat → Int32} {p_length : Nat → Int32} {p_words : Nat → Int32} {p_home : Nat → Int32} {n1 : Int32} {ex : Nat} {r : Int32} {o_x_missing : Int32} (C : Cx J Z cX9_drains 4 RX9 (some .int) rm_X9_drains) (hJ : J.1.stackTraces = false) (E : EzX J Z 1 6 ex (some (.int r)) (fun _ : Unit => cs_X9 (a0 0) k_tape (a1 0) k_trial k_task k_season k_stuffing k_images k_row (a2 0) k_sparePlan k_rule k_spareRule k_notes k_spareNotes x_latest x_imageMany x_refusedSteps o_x_missing x_misused ++ cs_X4 J.2.2.1 a1 s_year s_wet s_lost s_eaten s_tied s_ripeMany s_gone s_place s_heard s_many s_lying s_ripe ++ cs_X2 J.2.2.1 a2 p_beds p_letters p_readers p_far p_drain p_length p_words p_home)) : ∀ (n : Nat) (x2 : Int32) (x3 : Int32) (x_missing : Int32), f_X9_drains_16 s_gone p_beds p_letters p_drain p_length n1 n x2 x3 x_missing = some (ex, r, o_x_missing) → G J Z 1 6 (cs_X9 (a0 0) k_tape (a1 0) k_trial k_task k_season k_stuffing k_images k_row (a2 0) k_sparePlan k_rule k_spareRule k_notes k_spareNotes x_latest x_imageMany x_refusedSteps x_missing x_misused ++ cs_X4 J.2.2.1 a1 s_year s_wet s_lost s_eaten s_tied s_ripeMany s_gone s_place s_heard s_many s_lying s_ripe ++ cs_X2 J.2.2.1 a2 p_beds p_letters p_readers p_far p_drain p_length p_words p_home) 4 [(0, .ref (a0 0)), (1, .int n1), (2, .int x2), (3, .int x3)] 16 [] := by
  intro n
  induction n with
  | zero =>
    intro x2 x3 x_missing h
    rw [f_X9_drains_16] at h
    cases h
  | succ n ih =>
    intro x2 x3 x_missing h
    rw [f_X9_drains_16] at h
    refine g_iload_n (pc := 16) C 3 rfl dX9_drains_16 ?_
    refine g_aload_n (pc := 17) C 0 rfl dX9_drains_17 ?_
    refine g_get (pc := 18) C FOK_X9 0 rfl rfl 8 (by decide) kw_375 rfl dX9_drains_18 ?_
    refine g_get (pc := 21) C FOK_X2 8 rfl rfl 1 (by decide) kw_283 rfl dX9_drains_21 ?_
    refine g_icmp_ge (pc := 24) C (tgt := 67) dX9_drains_24 rfl h (fun h => ?_) (fun h => ?_)
    · refine g_iload_n (pc := 67) C 2 rfl dX9_drains_67 ?_
      cases h
      exact g_iretX C E () rfl dX9_drains_68
    · refine g_aload_n (pc := 27) C 0 rfl dX9_drains_27 ?_
      refine g_get (pc := 28) C FOK_X9 0 rfl rfl 8 (by decide) kw_375 rfl dX9_drains_28 ?_
      refine g_get (pc := 31) C FOK_X2 8 rfl rfl 4 (by decide) kw_295 rfl dX9_drains_31 ?_
      refine g_iload_n (pc := 34) C 3 rfl dX9_drains_34 ?_
      obtain ⟨hi, h⟩ := ix_of h
      refine g_iald (pc := 35) C 10 rfl hi dX9_drains_35 ?_
      refine g_iload_n (pc := 36) C 1 rfl dX9_drains_36 ?_
      refine g_icmp_ne (pc := 37) C (tgt := 61) dX9_drains_37 rfl h (fun h => ?_) (fun h => ?_)
      · refine g_iinc (pc := 61) C (j := 3) [(3, .int (x3 + 1)), (0, .ref (a0 0)), (1, .int n1), (2, .int x2)] dX9_drains_61 rfl (ii_1 _) (by decide) rfl ?_
        refine g_goto (pc := 64) C (tgt := 16) dX9_drains_64 rfl ?_
        refine g_lv [1, 2, 3, 0] rfl ?_
        exact ih x2 (x3 + 1) x_missing h
      · refine g_aload_n (pc := 40) C 0 rfl dX9_drains_40 ?_
        refine g_get (pc := 41) C FOK_X9 0 rfl rfl 1 (by decide) kw_368 rfl dX9_drains_41 ?_
        refine g_aload_n (pc := 44) C 0 rfl dX9_drains_44 ?_
        refine g_get (pc := 45) C FOK_X9 0 rfl rfl 8 (by decide) kw_375 rfl dX9_drains_45 ?_
        refine g_iload_n (pc := 48) C 3 rfl dX9_drains_48 ?_
        obtain ⟨v1, hc, h⟩ := b1_of h
        refine g_callV (pc := 49) C (w' := cs_X9 (a0 0) k_tape (a1 0) k_trial k_task k_season k_stuffing k_images k_row (a2 0) k_sparePlan k_rule k_spareRule k_notes k_spareNotes x_latest x_imageMany x_refusedSteps x_missing x_misused ++ cs_X4 J.2.2.1 a1 s_year s_wet s_lost s_eaten s_tied s_ripeMany s_gone s_place s_heard s_many s_lying s_ripe ++ cs_X2 J.2.2.1 a2 p_beds p_letters p_readers p_far p_drain p_length p_words p_home) (As := [.ref (a2 0), .int x3]) (st := []) (ci := 4) (q0 := 1) rfl rfl (t_X4_leftOf (a0 := a1) (a1 := a2) (s_year := s_year) (s_wet := s_wet) (s_lost := s_lost) (s_eaten := s_eaten) (s_tied := s_tied) (s_ripeMany := s_ripeMany) (s_gone := s_gone) (s_place := s_place) (s_heard := s_heard) (s_many := s_many) (s_lying := s_lying) (s_ripe := s_ripe) (p_beds := p_beds) (p_letters := p_letters) (p_readers := p_readers) (p_far := p_far) (p_drain := p_drain) (p_length := p_length) (p_words := p_words) (p_home := p_home) hc) (Sub.blk 3 [cs_X9 (a0 0) k_tape (a1 0) k_trial k_task k_season k_stuffing k_images k_row (a2 0) k_sparePlan k_rule k_spareRule k_notes k_spareNotes x_latest x_imageMany x_refusedSteps x_missing x_misused, cs_X4 J.2.2.1 a1 s_year s_wet s_lost s_eaten s_tied s_ripeMany s_gone s_place s_heard s_many s_lying s_ripe, cs_X2 J.2.2.1 a2 p_beds p_letters p_readers p_far p_drain p_length p_words p_home] [cs_X9 (a0 0) k_tape (a1 0) k_trial k_task k_season k_stuffing k_images k_row (a2 0) k_sparePlan k_rule k_spareRule k_notes k_spareNotes x_latest x_imageMany x_refusedSteps x_missing x_misused, cs_X4 J.2.2.1 a1 s_year s_wet s_lost s_eaten s_tied s_ripeMany s_gone s_place s_heard s_many s_lying s_ripe, cs_X2 J.2.2.1 a2 p_beds p_letters p_readers p_far p_drain p_length p_words p_home] [0] [1, 2] rfl (by simp only [List.flatten_cons, List.flatten_nil, List.append_nil, List.append_assoc]) (by simp only [List.flatten_cons, List.flatten_nil, List.append_nil, List.append_assoc]) rfl rfl rfl (by decide) (by simp only [List.map_cons, List.map_nil, List.getD_cons_zero, List.getD_cons_succ, List.flatten_cons, List.flatten_nil, List.append_nil, List.append_assoc]) (by simp only [List.map_cons, List.map_nil, List.getD_cons_zero, List.getD_cons_succ, List.flatten_cons, List.flatten_nil, List.append_nil, List.append_assoc])) kw_975 kw_465 kw_466 kw_88 hy_X4_leftOf kw_467 rfl (Nat.le_of_ble_eq_true rfl) (Nat.le_of_ble_eq_true rfl) (Nat.le_of_ble_eq_true rfl) (Nat.le_of_ble_eq_true rfl) (Nat.le_of_ble_eq_true rfl) dX9_drains_49 ?_
        refine g_if_le (pc := 52) C (tgt := 61) dX9_drains_52 rfl h (fun h => ?_) (fun h => ?_)
        · refine g_iinc (pc := 61) C (j := 3) [(3, .int (x3 + 1)), (0, .ref (a0 0)), (1, .int n1), (2, .int x2)] dX9_drains_61 rfl (ii_1 _) (by decide) rfl ?_
          refine g_goto (pc := 64) C (tgt := 16) dX9_drains_64 rfl ?_
          refine g_lv [1, 2, 3, 0] rfl ?_
          exact ih x2 (x3 + 1) x_missing h
        · refine g_iload_n (pc := 55) C 2 rfl dX9_drains_55 ?_
          refine g_iconst (pc := 56) C dX9_drains_56 ci_1 ?_
          refine g_iload_n (pc := 57) C 3 rfl dX9_drains_57 ?_
          refine g_ishl (pc := 58) C dX9_drains_58 ?_
          refine g_ior (pc := 59) C dX9_drains_59 ?_
          refine g_istore_n (pc := 60) C [(2, .int (x2 ||| ((1 : Int32) <<< (x3 &&& 31)))), (0, .ref (a0 0)), (1, .int n1), (3, .int x3)] dX9_drains_60 rfl (by decide) rfl ?_
          refine g_iinc (pc := 61) C (j := 3) [(3, .int (x3 + 1)), (2, .int (x2 ||| ((1 : Int32) <<< (x3 &&& 31)))), (0, .ref (a0 0)), (1, .int n1)] dX9_drains_61 rfl (ii_1 _) (by decide) rfl ?_
          refine g_goto (pc := 64) C (tgt := 16) dX9_drains_64 rfl ?_
          refine g_lv [2, 3, 1, 0] rfl ?_
          exact ih (x2 ||| ((1 : Int32) <<< (x3 &&& 31))) (x3 + 1) x_missing h
set_option maxRecDepth 100000 in
set_option maxHeartbeats 4000000 in
theorem t_X9_drains {J : Jt} {a0 : Nat → Nat} {a1 : Nat → Nat} {a2 : Nat → Nat} {k_tape : Nat} {k_trial : Nat} {k_task : Nat} {k_season : Nat} {k_stuffing : Nat} {k_images : Nat} {k_row : Nat} {k_sparePlan : Nat} {k_rule : Nat} {k_spareRule : Nat} {k_notes : Nat} {k_spareNotes : Nat} {x_latest : Value} {x_imageMany : Int32} {x_refusedSteps : Int32} {x_missing : Int32} {x_misused : Int32} {s_year : Int32} {s_wet : Int32} {s_lost : Int32} {s_eaten : Int32} {s_tied : Int32} {s_ripeMany : Int32} {s_gone : Nat → Int32} {s_place : Nat → Int32} {s_heard : Nat → Int32} {s_many : Nat → Int32} {s_lying : Nat → Int32} {s_ripe : Nat → Int32} {p_beds : Int32} {p_letters : Int32} {p_readers : Int32} {p_far : Nat → Int32} {p_drain : Nat → Int32} {p_length : Nat → Int32} {p_words : Nat → Int32} {p_home : Nat → Int32} {n1 : Int32} {ex : Nat} {r : Int32} {o_x_missing : Int32} (hJ : J.1.stackTraces = false) (h : f_X9_drains x_missing s_gone p_beds p_letters p_drain p_length n1 = some (ex, r, o_x_missing)) : MtX J yX9_drains cX9_drains 4 (some .int) rm_X9_drains [.ref (a0 0), .int n1] (cs_X9 (a0 0) k_tape (a1 0) k_trial k_task k_season k_stuffing k_images k_row (a2 0) k_sparePlan k_rule k_spareRule k_notes k_spareNotes x_latest x_imageMany x_refusedSteps x_missing x_misused ++ cs_X4 J.2.2.1 a1 s_year s_wet s_lost s_eaten s_tied s_ripeMany s_gone s_place s_heard s_many s_lying s_ripe ++ cs_X2 J.2.2.1 a2 p_beds p_letters p_readers p_far p_drain p_length p_words p_home) ex (some (.int r)) (fun _ : Unit => cs_X9 (a0 0) k_tape (a1 0) k_trial k_task k_season k_stuffing k_images k_row (a2 0) k_sparePlan k_rule k_spareRule k_notes k_spareNotes x_latest x_imageMany x_refusedSteps o_x_missing x_misused ++ cs_X4 J.2.2.1 a1 s_year s_wet s_lost s_eaten s_tied s_ripeMany s_gone s_place s_heard s_many s_lying s_ripe ++ cs_X2 J.2.2.1 a2 p_beds p_letters p_readers p_far p_drain p_length p_words p_home) := by
  refine MtX_of (own := RX9) (by decide) rfl (Nat.le_of_ble_eq_true rfl) rfl (fun Z C E => ?_)
  unfold f_X9_drains at h
  show G J Z 0 0 (cs_X9 (a0 0) k_tape (a1 0) k_trial k_task k_season k_stuffing k_images k_row (a2 0) k_sparePlan k_rule k_spareRule k_notes k_spareNotes x_latest x_imageMany x_refusedSteps x_missing x_misused ++ cs_X4 J.2.2.1 a1 s_year s_wet s_lost s_eaten s_tied s_ripeMany s_gone s_place s_heard s_many s_lying s_ripe ++ cs_X2 J.2.2.1 a2 p_beds p_letters p_readers p_far p_drain p_length p_words p_home) 4 [(0, .ref (a0 0)), (1, .int n1)] 0 []
  refine g_aload_n (pc := 0) C 0 rfl dX9_drains_0 ?_
  refine g_iload_n (pc := 1) C 1 rfl dX9_drains_1 ?_
  refine g_aload_n (pc := 2) C 0 rfl dX9_drains_2 ?_
  refine g_get (pc := 3) C FOK_X9 0 rfl rfl 8 (by decide) kw_375 rfl dX9_drains_3 ?_
  refine g_get (pc := 6) C FOK_X2 8 rfl rfl 0 (by decide) kw_279 rfl dX9_drains_6 ?_
  obtain ⟨e2, c3, hc, h⟩ := b2_of h
  refine g_xcallU (pc := 9) C (w' := cs_X9 (a0 0) k_tape (a1 0) k_trial k_task k_season k_stuffing k_images k_row (a2 0) k_sparePlan k_rule k_spareRule k_notes k_spareNotes x_latest x_imageMany x_refusedSteps c3 x_misused ++ cs_X4 J.2.2.1 a1 s_year s_wet s_lost s_eaten s_tied s_ripeMany s_gone s_place s_heard s_many s_lying s_ripe ++ cs_X2 J.2.2.1 a2 p_beds p_letters p_readers p_far p_drain p_length p_words p_home) (As := [.int n1, .int p_beds]) (st := []) (ci := 9) (q0 := 0) rfl rfl (t_X9_needOneOf (k_tape := k_tape) (k_now := (a1 0)) (k_trial := k_trial) (k_task := k_task) (k_season := k_season) (k_stuffing := k_stuffing) (k_images := k_images) (k_row := k_row) (k_plan := (a2 0)) (k_sparePlan := k_sparePlan) (k_rule := k_rule) (k_spareRule := k_spareRule) (k_notes := k_notes) (k_spareNotes := k_spareNotes) (a0 := a0) (x_latest := x_latest) (x_imageMany := x_imageMany) (x_refusedSteps := x_refusedSteps) (x_missing := x_missing) (x_misused := x_misused) hJ hc) (Sub.blk 3 [cs_X9 (a0 0) k_tape (a1 0) k_trial k_task k_season k_stuffing k_images k_row (a2 0) k_sparePlan k_rule k_spareRule k_notes k_spareNotes x_latest x_imageMany x_refusedSteps x_missing x_misused, cs_X4 J.2.2.1 a1 s_year s_wet s_lost s_eaten s_tied s_ripeMany s_gone s_place s_heard s_many s_lying s_ripe, cs_X2 J.2.2.1 a2 p_beds p_letters p_readers p_far p_drain p_length p_words p_home] [cs_X9 (a0 0) k_tape (a1 0) k_trial k_task k_season k_stuffing k_images k_row (a2 0) k_sparePlan k_rule k_spareRule k_notes k_spareNotes x_latest x_imageMany x_refusedSteps c3 x_misused, cs_X4 J.2.2.1 a1 s_year s_wet s_lost s_eaten s_tied s_ripeMany s_gone s_place s_heard s_many s_lying s_ripe, cs_X2 J.2.2.1 a2 p_beds p_letters p_readers p_far p_drain p_length p_words p_home] [1, 2] [0] rfl (by simp only [List.flatten_cons, List.flatten_nil, List.append_nil, List.append_assoc]) (by simp only [List.flatten_cons, List.flatten_nil, List.append_nil, List.append_assoc]) rfl rfl rfl (by decide) (by simp only [List.map_cons, List.map_nil, List.getD_cons_zero, List.getD_cons_succ, List.flatten_cons, List.flatten_nil, List.append_nil, List.append_assoc]) (by simp only [List.map_cons, List.map_nil, List.getD_cons_zero, List.getD_cons_succ, List.flatten_cons, List.flatten_nil, List.append_nil, List.append_assoc])) kw_956 kw_958 kw_12 kw_86 hy_X9_needOneOf kw_959 rfl (Nat.le_of_ble_eq_true rfl) (Nat.le_of_ble_eq_true rfl) (Nat.le_of_ble_eq_true rfl) (Nat.le_of_ble_eq_true rfl) (Nat.le_of_ble_eq_true rfl) dX9_drains_9 (fun he => ?_) (fun he => ?_)
  · subst he
    rw [if_pos rfl] at h
    refine g_wid (n' := 1) (k' := 6) (Nat.le_of_ble_eq_true rfl) (Nat.le_of_ble_eq_true rfl) ?_
    refine g_iconst (pc := 12) C dX9_drains_12 ci_0 ?_
    refine g_istore_n (pc := 13) C [(2, .int 0), (0, .ref (a0 0)), (1, .int n1)] dX9_drains_13 rfl (by decide) rfl ?_
    refine g_iconst (pc := 14) C dX9_drains_14 ci_0 ?_
    refine g_istore_n (pc := 15) C [(3, .int 0), (2, .int 0), (0, .ref (a0 0)), (1, .int n1)] dX9_drains_15 rfl (by decide) rfl ?_
    refine g_lv [2, 3, 1, 0] rfl ?_
    exact j_X9_drains_16 C hJ E    FU 0 0 c3 h
  · rw [if_neg he] at h
    cases h
    exact gt_out C he E (Nat.le_of_ble_eq_true rfl) (Nat.le_of_ble_eq_true rfl) () rfl
noncomputable def f_X9_unread (x_missing : Int32) (s_place : Nat → Int32) (s_heard : Nat → Int32) (s_many : Nat → Int32) (s_lying : Nat → Int32) (p_readers : Int32) (n1 : Int32) : Option (Nat × Int32 × Int32) := b2 (f_X9_needOneOf x_missing n1 p_readers) (fun e1 c2 => if e1 = 0 then if ixb n1 5 then b1 (f_X4_wordsIn s_many s_lying (s_place n1.toNatClampNeg)) (fun v3 => if ixb n1 5 then some (0, v3 &&& ((s_heard n1.toNatClampNeg) ^^^ (-1)), c2) else none) else none else some (e1, 0, c2))
def rm_X9_unread : Room := { frames := 10, cells := 1, slots := 6, locals := 142 }
set_option maxRecDepth 100000 in
set_option maxHeartbeats 4000000 in
theorem t_X9_unread {J : Jt} {a0 : Nat → Nat} {a1 : Nat → Nat} {a2 : Nat → Nat} {k_tape : Nat} {k_trial : Nat} {k_task : Nat} {k_season : Nat} {k_stuffing : Nat} {k_images : Nat} {k_row : Nat} {k_sparePlan : Nat} {k_rule : Nat} {k_spareRule : Nat} {k_notes : Nat} {k_spareNotes : Nat} {x_latest : Value} {x_imageMany : Int32} {x_refusedSteps : Int32} {x_missing : Int32} {x_misused : Int32} {s_year : Int32} {s_wet : Int32} {s_lost : Int32} {s_eaten : Int32} {s_tied : Int32} {s_ripeMany : Int32} {s_gone : Nat → Int32} {s_place : Nat → Int32} {s_heard : Nat → Int32} {s_many : Nat → Int32} {s_lying : Nat → Int32} {s_ripe : Nat → Int32} {p_beds : Int32} {p_letters : Int32} {p_readers : Int32} {p_far : Nat → Int32} {p_drain : Nat → Int32} {p_length : Nat → Int32} {p_words : Nat → Int32} {p_home : Nat → Int32} {n1 : Int32} {ex : Nat} {r : Int32} {o_x_missing : Int32} (hJ : J.1.stackTraces = false) (h : f_X9_unread x_missing s_place s_heard s_many s_lying p_readers n1 = some (ex, r, o_x_missing)) : MtX J yX9_unread cX9_unread 2 (some .int) rm_X9_unread [.ref (a0 0), .int n1] (cs_X9 (a0 0) k_tape (a1 0) k_trial k_task k_season k_stuffing k_images k_row (a2 0) k_sparePlan k_rule k_spareRule k_notes k_spareNotes x_latest x_imageMany x_refusedSteps x_missing x_misused ++ cs_X4 J.2.2.1 a1 s_year s_wet s_lost s_eaten s_tied s_ripeMany s_gone s_place s_heard s_many s_lying s_ripe ++ cs_X2 J.2.2.1 a2 p_beds p_letters p_readers p_far p_drain p_length p_words p_home) ex (some (.int r)) (fun _ : Unit => cs_X9 (a0 0) k_tape (a1 0) k_trial k_task k_season k_stuffing k_images k_row (a2 0) k_sparePlan k_rule k_spareRule k_notes k_spareNotes x_latest x_imageMany x_refusedSteps o_x_missing x_misused ++ cs_X4 J.2.2.1 a1 s_year s_wet s_lost s_eaten s_tied s_ripeMany s_gone s_place s_heard s_many s_lying s_ripe ++ cs_X2 J.2.2.1 a2 p_beds p_letters p_readers p_far p_drain p_length p_words p_home) := by
  refine MtX_of (own := RX9) (by decide) rfl (Nat.le_of_ble_eq_true rfl) rfl (fun Z C E => ?_)
  unfold f_X9_unread at h
  show G J Z 0 0 (cs_X9 (a0 0) k_tape (a1 0) k_trial k_task k_season k_stuffing k_images k_row (a2 0) k_sparePlan k_rule k_spareRule k_notes k_spareNotes x_latest x_imageMany x_refusedSteps x_missing x_misused ++ cs_X4 J.2.2.1 a1 s_year s_wet s_lost s_eaten s_tied s_ripeMany s_gone s_place s_heard s_many s_lying s_ripe ++ cs_X2 J.2.2.1 a2 p_beds p_letters p_readers p_far p_drain p_length p_words p_home) 2 [(0, .ref (a0 0)), (1, .int n1)] 0 []
  refine g_aload_n (pc := 0) C 0 rfl dX9_unread_0 ?_
  refine g_iload_n (pc := 1) C 1 rfl dX9_unread_1 ?_
  refine g_aload_n (pc := 2) C 0 rfl dX9_unread_2 ?_
  refine g_get (pc := 3) C FOK_X9 0 rfl rfl 8 (by decide) kw_375 rfl dX9_unread_3 ?_
  refine g_get (pc := 6) C FOK_X2 8 rfl rfl 2 (by decide) kw_289 rfl dX9_unread_6 ?_
  obtain ⟨e1, c2, hc, h⟩ := b2_of h
  refine g_xcallU (pc := 9) C (w' := cs_X9 (a0 0) k_tape (a1 0) k_trial k_task k_season k_stuffing k_images k_row (a2 0) k_sparePlan k_rule k_spareRule k_notes k_spareNotes x_latest x_imageMany x_refusedSteps c2 x_misused ++ cs_X4 J.2.2.1 a1 s_year s_wet s_lost s_eaten s_tied s_ripeMany s_gone s_place s_heard s_many s_lying s_ripe ++ cs_X2 J.2.2.1 a2 p_beds p_letters p_readers p_far p_drain p_length p_words p_home) (As := [.int n1, .int p_readers]) (st := []) (ci := 9) (q0 := 0) rfl rfl (t_X9_needOneOf (k_tape := k_tape) (k_now := (a1 0)) (k_trial := k_trial) (k_task := k_task) (k_season := k_season) (k_stuffing := k_stuffing) (k_images := k_images) (k_row := k_row) (k_plan := (a2 0)) (k_sparePlan := k_sparePlan) (k_rule := k_rule) (k_spareRule := k_spareRule) (k_notes := k_notes) (k_spareNotes := k_spareNotes) (a0 := a0) (x_latest := x_latest) (x_imageMany := x_imageMany) (x_refusedSteps := x_refusedSteps) (x_missing := x_missing) (x_misused := x_misused) hJ hc) (Sub.blk 3 [cs_X9 (a0 0) k_tape (a1 0) k_trial k_task k_season k_stuffing k_images k_row (a2 0) k_sparePlan k_rule k_spareRule k_notes k_spareNotes x_latest x_imageMany x_refusedSteps x_missing x_misused, cs_X4 J.2.2.1 a1 s_year s_wet s_lost s_eaten s_tied s_ripeMany s_gone s_place s_heard s_many s_lying s_ripe, cs_X2 J.2.2.1 a2 p_beds p_letters p_readers p_far p_drain p_length p_words p_home] [cs_X9 (a0 0) k_tape (a1 0) k_trial k_task k_season k_stuffing k_images k_row (a2 0) k_sparePlan k_rule k_spareRule k_notes k_spareNotes x_latest x_imageMany x_refusedSteps c2 x_misused, cs_X4 J.2.2.1 a1 s_year s_wet s_lost s_eaten s_tied s_ripeMany s_gone s_place s_heard s_many s_lying s_ripe, cs_X2 J.2.2.1 a2 p_beds p_letters p_readers p_far p_drain p_length p_words p_home] [1, 2] [0] rfl (by simp only [List.flatten_cons, List.flatten_nil, List.append_nil, List.append_assoc]) (by simp only [List.flatten_cons, List.flatten_nil, List.append_nil, List.append_assoc]) rfl rfl rfl (by decide) (by simp only [List.map_cons, List.map_nil, List.getD_cons_zero, List.getD_cons_succ, List.flatten_cons, List.flatten_nil, List.append_nil, List.append_assoc]) (by simp only [List.map_cons, List.map_nil, List.getD_cons_zero, List.getD_cons_succ, List.flatten_cons, List.flatten_nil, List.append_nil, List.append_assoc])) kw_956 kw_958 kw_12 kw_86 hy_X9_needOneOf kw_959 rfl (Nat.le_of_ble_eq_true rfl) (Nat.le_of_ble_eq_true rfl) (Nat.le_of_ble_eq_true rfl) (Nat.le_of_ble_eq_true rfl) (Nat.le_of_ble_eq_true rfl) dX9_unread_9 (fun he => ?_) (fun he => ?_)
  · subst he
    rw [if_pos rfl] at h
    refine g_wid (n' := 1) (k' := 6) (Nat.le_of_ble_eq_true rfl) (Nat.le_of_ble_eq_true rfl) ?_
    refine g_aload_n (pc := 12) C 0 rfl dX9_unread_12 ?_
    refine g_get (pc := 13) C FOK_X9 0 rfl rfl 1 (by decide) kw_368 rfl dX9_unread_13 ?_
    refine g_aload_n (pc := 16) C 0 rfl dX9_unread_16 ?_
    refine g_get (pc := 17) C FOK_X9 0 rfl rfl 1 (by decide) kw_368 rfl dX9_unread_17 ?_
    refine g_get (pc := 20) C FOK_X4 1 rfl rfl 7 (by decide) kw_169 rfl dX9_unread_20 ?_
    refine g_iload_n (pc := 23) C 1 rfl dX9_unread_23 ?_
    obtain ⟨hi, h⟩ := ix_of h
    refine g_iald (pc := 24) C 3 rfl hi dX9_unread_24 ?_
    obtain ⟨v3, hc, h⟩ := b1_of h
    refine g_callV (pc := 25) C (w' := cs_X9 (a0 0) k_tape (a1 0) k_trial k_task k_season k_stuffing k_images k_row (a2 0) k_sparePlan k_rule k_spareRule k_notes k_spareNotes x_latest x_imageMany x_refusedSteps c2 x_misused ++ cs_X4 J.2.2.1 a1 s_year s_wet s_lost s_eaten s_tied s_ripeMany s_gone s_place s_heard s_many s_lying s_ripe ++ cs_X2 J.2.2.1 a2 p_beds p_letters p_readers p_far p_drain p_length p_words p_home) (As := [.int (s_place n1.toNatClampNeg)]) (st := []) (ci := 4) (q0 := 1) rfl rfl (t_X4_wordsIn (a0 := a1) (s_year := s_year) (s_wet := s_wet) (s_lost := s_lost) (s_eaten := s_eaten) (s_tied := s_tied) (s_ripeMany := s_ripeMany) (s_gone := s_gone) (s_place := s_place) (s_heard := s_heard) (s_many := s_many) (s_lying := s_lying) (s_ripe := s_ripe) hc) (Sub.blk 3 [cs_X9 (a0 0) k_tape (a1 0) k_trial k_task k_season k_stuffing k_images k_row (a2 0) k_sparePlan k_rule k_spareRule k_notes k_spareNotes x_latest x_imageMany x_refusedSteps c2 x_misused, cs_X4 J.2.2.1 a1 s_year s_wet s_lost s_eaten s_tied s_ripeMany s_gone s_place s_heard s_many s_lying s_ripe, cs_X2 J.2.2.1 a2 p_beds p_letters p_readers p_far p_drain p_length p_words p_home] [cs_X9 (a0 0) k_tape (a1 0) k_trial k_task k_season k_stuffing k_images k_row (a2 0) k_sparePlan k_rule k_spareRule k_notes k_spareNotes x_latest x_imageMany x_refusedSteps c2 x_misused, cs_X4 J.2.2.1 a1 s_year s_wet s_lost s_eaten s_tied s_ripeMany s_gone s_place s_heard s_many s_lying s_ripe, cs_X2 J.2.2.1 a2 p_beds p_letters p_readers p_far p_drain p_length p_words p_home] [0, 2] [1] rfl (by simp only [List.flatten_cons, List.flatten_nil, List.append_nil, List.append_assoc]) (by simp only [List.flatten_cons, List.flatten_nil, List.append_nil, List.append_assoc]) rfl rfl rfl (by decide) (by simp only [List.map_cons, List.map_nil, List.getD_cons_zero, List.getD_cons_succ, List.flatten_cons, List.flatten_nil, List.append_nil, List.append_assoc]) (by simp only [List.map_cons, List.map_nil, List.getD_cons_zero, List.getD_cons_succ, List.flatten_cons, List.flatten_nil, List.append_nil, List.append_assoc])) kw_993 kw_870 kw_871 kw_88 hy_X4_wordsIn kw_872 rfl (Nat.le_of_ble_eq_true rfl) (Nat.le_of_ble_eq_true rfl) (Nat.le_of_ble_eq_true rfl) (Nat.le_of_ble_eq_true rfl) (Nat.le_of_ble_eq_true rfl) dX9_unread_25 ?_
    refine g_aload_n (pc := 28) C 0 rfl dX9_unread_28 ?_
    refine g_get (pc := 29) C FOK_X9 0 rfl rfl 1 (by decide) kw_368 rfl dX9_unread_29 ?_
    refine g_get (pc := 32) C FOK_X4 1 rfl rfl 8 (by decide) kw_171 rfl dX9_unread_32 ?_
    refine g_iload_n (pc := 35) C 1 rfl dX9_unread_35 ?_
    obtain ⟨hi, h⟩ := ix_of h
    refine g_iald (pc := 36) C 4 rfl hi dX9_unread_36 ?_
    refine g_iconst (pc := 37) C dX9_unread_37 ci_m1 ?_
    refine g_ixor (pc := 38) C dX9_unread_38 ?_
    refine g_iand (pc := 39) C dX9_unread_39 ?_
    cases h
    exact g_iretX C E () rfl dX9_unread_40
  · rw [if_neg he] at h
    cases h
    exact gt_out C he E (Nat.le_of_ble_eq_true rfl) (Nat.le_of_ble_eq_true rfl) () rfl
noncomputable def f_X9_coming_68  (s_tied : Int32) (s_gone : Nat → Int32) (p_beds : Int32) (p_letters : Int32) (p_drain : Nat → Int32) (p_length : Nat → Int32) (n1 : Int32) (n2 : Int32) (k24 : Int32 → Int32 → Int32 → Int32 → Option (Nat × Int32 × Int32 × Int32)) (x3 : Int32) (x4 : Int32) (y0 : Int32) (y1 : Int32) (x_missing : Int32) (x_misused : Int32) : Option (Nat × Int32 × Int32 × Int32) := if y0 = y1 then b1 (f_X4_leftOf s_gone p_length x4) (fun v1 => k24 (x3 + v1) (x4 + 1) x_missing x_misused) else k24 x3 (x4 + 1) x_missing x_misused
noncomputable def f_X9_coming_24  (s_tied : Int32) (s_gone : Nat → Int32) (p_beds : Int32) (p_letters : Int32) (p_drain : Nat → Int32) (p_length : Nat → Int32) (n1 : Int32) (n2 : Int32) : Nat → Int32 → Int32 → Int32 → Int32 → Option (Nat × Int32 × Int32 × Int32)
  | 0, _, _, _, _ => none
  | n + 1, x3, x4, x_missing, x_misused => if p_letters ≤ x4 then some (0, x3, x_missing, x_misused) else if ixb x4 6 then if (p_drain x4.toNatClampNeg) = n1 then b1 (f_X4_isTied s_tied x4) (fun v2 => if n2 = 0 then f_X9_coming_68 s_tied s_gone p_beds p_letters p_drain p_length n1 n2 (f_X9_coming_24 s_tied s_gone p_beds p_letters p_drain p_length n1 n2 n) x3 x4 v2 1 x_missing x_misused else f_X9_coming_68 s_tied s_gone p_beds p_letters p_drain p_length n1 n2 (f_X9_coming_24 s_tied s_gone p_beds p_letters p_drain p_length n1 n2 n) x3 x4 v2 0 x_missing x_misused) else f_X9_coming_24 s_tied s_gone p_beds p_letters p_drain p_length n1 n2 n x3 (x4 + 1) x_missing x_misused else none
noncomputable def f_X9_coming (x_missing : Int32) (x_misused : Int32) (s_tied : Int32) (s_gone : Nat → Int32) (p_beds : Int32) (p_letters : Int32) (p_drain : Nat → Int32) (p_length : Nat → Int32) (n1 : Int32) (n2 : Int32) : Option (Nat × Int32 × Int32 × Int32) := b2 (f_X9_needOneOf x_missing n1 p_beds) (fun e3 c4 => if e3 = 0 then b2 (f_X9_needRange x_misused n2 0 1) (fun e5 c6 => if e5 = 0 then f_X9_coming_24 s_tied s_gone p_beds p_letters p_drain p_length n1 n2 FU 0 0 c4 c6 else some (e5, 0, c4, c6)) else some (e3, 0, c4, x_misused))
def rm_X9_coming : Room := { frames := 10, cells := 2, slots := 12, locals := 143 }
set_option maxRecDepth 100000 in
set_option maxHeartbeats 4000000 in
theorem j_X9_coming_68 {J : Jt} {Z : Zt} {a0 : Nat → Nat} {a1 : Nat → Nat} {a2 : Nat → Nat} {k_tape : Nat} {k_trial : Nat} {k_task : Nat} {k_season : Nat} {k_stuffing : Nat} {k_images : Nat} {k_row : Nat} {k_sparePlan : Nat} {k_rule : Nat} {k_spareRule : Nat} {k_notes : Nat} {k_spareNotes : Nat} {x_latest : Value} {x_imageMany : Int32} {x_refusedSteps : Int32} {s_year : Int32} {s_wet : Int32} {s_lost : Int32} {s_eaten : Int32} {s_tied : Int32} {s_ripeMany : Int32} {s_gone : Nat → Int32} {s_place : Nat → Int32} {s_heard : Nat → Int32} {s_many : Nat → Int32} {s_lying : Nat → Int32} {s_ripe : Nat → Int32} {p_beds : Int32} {p_letters : Int32} {p_readers : Int32} {p_far : Nat → Int32} {p_drain : Nat → Int32} {p_length : Nat → Int32} {p_words : Nat → Int32} {p_home : Nat → Int32} {n1 : Int32} {n2 : Int32} {ex : Nat} {r : Int32} {o_x_missing : Int32} {o_x_misused : Int32} {k24 : Int32 → Int32 → Int32 → Int32 → Option (Nat × Int32 × Int32 × Int32)} (C : Cx J Z cX9_coming 5 RX9 (some .int) rm_X9_coming) (hJ : J.1.stackTraces = false) (E : EzX J Z 2 12 ex (some (.int r)) (fun _ : Unit => cs_X9 (a0 0) k_tape (a1 0) k_trial k_task k_season k_stuffing k_images k_row (a2 0) k_sparePlan k_rule k_spareRule k_notes k_spareNotes x_latest x_imageMany x_refusedSteps o_x_missing o_x_misused ++ cs_X4 J.2.2.1 a1 s_year s_wet s_lost s_eaten s_tied s_ripeMany s_gone s_place s_heard s_many s_lying s_ripe ++ cs_X2 J.2.2.1 a2 p_beds p_letters p_readers p_far p_drain p_length p_words p_home)) (hk24 : ∀ (x3 : Int32) (x4 : Int32) (x_missing : Int32) (x_misused : Int32), k24 x3 x4 x_missing x_misused = some (ex, r, o_x_missing, o_x_misused) → G J Z 2 12 (cs_X9 (a0 0) k_tape (a1 0) k_trial k_task k_season k_stuffing k_images k_row (a2 0) k_sparePlan k_rule k_spareRule k_notes k_spareNotes x_latest x_imageMany x_refusedSteps x_missing x_misused ++ cs_X4 J.2.2.1 a1 s_year s_wet s_lost s_eaten s_tied s_ripeMany s_gone s_place s_heard s_many s_lying s_ripe ++ cs_X2 J.2.2.1 a2 p_beds p_letters p_readers p_far p_drain p_length p_words p_home) 5 [(0, .ref (a0 0)), (1, .int n1), (2, .int n2), (3, .int x3), (4, .int x4)] 24 []) : ∀ (x3 : Int32) (x4 : Int32) (y0 : Int32) (y1 : Int32) (x_missing : Int32) (x_misused : Int32), f_X9_coming_68 s_tied s_gone p_beds p_letters p_drain p_length n1 n2 k24 x3 x4 y0 y1 x_missing x_misused = some (ex, r, o_x_missing, o_x_misused) → G J Z 2 12 (cs_X9 (a0 0) k_tape (a1 0) k_trial k_task k_season k_stuffing k_images k_row (a2 0) k_sparePlan k_rule k_spareRule k_notes k_spareNotes x_latest x_imageMany x_refusedSteps x_missing x_misused ++ cs_X4 J.2.2.1 a1 s_year s_wet s_lost s_eaten s_tied s_ripeMany s_gone s_place s_heard s_many s_lying s_ripe ++ cs_X2 J.2.2.1 a2 p_beds p_letters p_readers p_far p_drain p_length p_words p_home) 5 [(0, .ref (a0 0)), (1, .int n1), (2, .int n2), (3, .int x3), (4, .int x4)] 68 [.int y1, .int y0] := by
  intro x3 x4 y0 y1 x_missing x_misused h
  unfold f_X9_coming_68 at h
  refine g_icmp_ne (pc := 68) C (tgt := 87) dX9_coming_68 rfl h (fun h => ?_) (fun h => ?_)
  · refine g_iinc (pc := 87) C (j := 4) [(4, .int (x4 + 1)), (0, .ref (a0 0)), (1, .int n1), (2, .int n2), (3, .int x3)] dX9_coming_87 rfl (ii_1 _) (by decide) rfl ?_
    refine g_goto (pc := 90) C (tgt := 24) dX9_coming_90 rfl ?_
    refine g_lv [1, 2, 3, 4, 0] rfl ?_
    exact hk24 x3 (x4 + 1) x_missing x_misused h
  · refine g_iload_n (pc := 71) C 3 rfl dX9_coming_71 ?_
    refine g_aload_n (pc := 72) C 0 rfl dX9_coming_72 ?_
    refine g_get (pc := 73) C FOK_X9 0 rfl rfl 1 (by decide) kw_368 rfl dX9_coming_73 ?_
    refine g_aload_n (pc := 76) C 0 rfl dX9_coming_76 ?_
    refine g_get (pc := 77) C FOK_X9 0 rfl rfl 8 (by decide) kw_375 rfl dX9_coming_77 ?_
    refine g_iload (pc := 80) C 4 rfl dX9_coming_80 ?_
    obtain ⟨v1, hc, h⟩ := b1_of h
    refine g_callV (pc := 82) C (w' := cs_X9 (a0 0) k_tape (a1 0) k_trial k_task k_season k_stuffing k_images k_row (a2 0) k_sparePlan k_rule k_spareRule k_notes k_spareNotes x_latest x_imageMany x_refusedSteps x_missing x_misused ++ cs_X4 J.2.2.1 a1 s_year s_wet s_lost s_eaten s_tied s_ripeMany s_gone s_place s_heard s_many s_lying s_ripe ++ cs_X2 J.2.2.1 a2 p_beds p_letters p_readers p_far p_drain p_length p_words p_home) (As := [.ref (a2 0), .int x4]) (st := [.int x3]) (ci := 4) (q0 := 1) rfl rfl (t_X4_leftOf (a0 := a1) (a1 := a2) (s_year := s_year) (s_wet := s_wet) (s_lost := s_lost) (s_eaten := s_eaten) (s_tied := s_tied) (s_ripeMany := s_ripeMany) (s_gone := s_gone) (s_place := s_place) (s_heard := s_heard) (s_many := s_many) (s_lying := s_lying) (s_ripe := s_ripe) (p_beds := p_beds) (p_letters := p_letters) (p_readers := p_readers) (p_far := p_far) (p_drain := p_drain) (p_length := p_length) (p_words := p_words) (p_home := p_home) hc) (Sub.blk 3 [cs_X9 (a0 0) k_tape (a1 0) k_trial k_task k_season k_stuffing k_images k_row (a2 0) k_sparePlan k_rule k_spareRule k_notes k_spareNotes x_latest x_imageMany x_refusedSteps x_missing x_misused, cs_X4 J.2.2.1 a1 s_year s_wet s_lost s_eaten s_tied s_ripeMany s_gone s_place s_heard s_many s_lying s_ripe, cs_X2 J.2.2.1 a2 p_beds p_letters p_readers p_far p_drain p_length p_words p_home] [cs_X9 (a0 0) k_tape (a1 0) k_trial k_task k_season k_stuffing k_images k_row (a2 0) k_sparePlan k_rule k_spareRule k_notes k_spareNotes x_latest x_imageMany x_refusedSteps x_missing x_misused, cs_X4 J.2.2.1 a1 s_year s_wet s_lost s_eaten s_tied s_ripeMany s_gone s_place s_heard s_many s_lying s_ripe, cs_X2 J.2.2.1 a2 p_beds p_letters p_readers p_far p_drain p_length p_words p_home] [0] [1, 2] rfl (by simp only [List.flatten_cons, List.flatten_nil, List.append_nil, List.append_assoc]) (by simp only [List.flatten_cons, List.flatten_nil, List.append_nil, List.append_assoc]) rfl rfl rfl (by decide) (by simp only [List.map_cons, List.map_nil, List.getD_cons_zero, List.getD_cons_succ, List.flatten_cons, List.flatten_nil, List.append_nil, List.append_assoc]) (by simp only [List.map_cons, List.map_nil, List.getD_cons_zero, List.getD_cons_succ, List.flatten_cons, List.flatten_nil, List.append_nil, List.append_assoc])) kw_975 kw_465 kw_466 kw_88 hy_X4_leftOf kw_467 rfl (Nat.le_of_ble_eq_true rfl) (Nat.le_of_ble_eq_true rfl) (Nat.le_of_ble_eq_true rfl) (Nat.le_of_ble_eq_true rfl) (Nat.le_of_ble_eq_true rfl) dX9_coming_82 ?_
    refine g_iadd (pc := 85) C dX9_coming_85 ?_
    refine g_istore_n (pc := 86) C [(3, .int (x3 + v1)), (0, .ref (a0 0)), (1, .int n1), (2, .int n2), (4, .int x4)] dX9_coming_86 rfl (by decide) rfl ?_
    refine g_iinc (pc := 87) C (j := 4) [(4, .int (x4 + 1)), (3, .int (x3 + v1)), (0, .ref (a0 0)), (1, .int n1), (2, .int n2)] dX9_coming_87 rfl (ii_1 _) (by decide) rfl ?_
    refine g_goto (pc := 90) C (tgt := 24) dX9_coming_90 rfl ?_
    refine g_lv [2, 3, 4, 1, 0] rfl ?_
    exact hk24 (x3 + v1) (x4 + 1) x_missing x_misused h
set_option maxRecDepth 100000 in
set_option maxHeartbeats 4000000 in
theorem j_X9_coming_24 {J : Jt} {Z : Zt} {a0 : Nat → Nat} {a1 : Nat → Nat} {a2 : Nat → Nat} {k_tape : Nat} {k_trial : Nat} {k_task : Nat} {k_season : Nat} {k_stuffing : Nat} {k_images : Nat} {k_row : Nat} {k_sparePlan : Nat} {k_rule : Nat} {k_spareRule : Nat} {k_notes : Nat} {k_spareNotes : Nat} {x_latest : Value} {x_imageMany : Int32} {x_refusedSteps : Int32} {s_year : Int32} {s_wet : Int32} {s_lost : Int32} {s_eaten : Int32} {s_tied : Int32} {s_ripeMany : Int32} {s_gone : Nat → Int32} {s_place : Nat → Int32} {s_heard : Nat → Int32} {s_many : Nat → Int32} {s_lying : Nat → Int32} {s_ripe : Nat → Int32} {p_beds : Int32} {p_letters : Int32} {p_readers : Int32} {p_far : Nat → Int32} {p_drain : Nat → Int32} {p_length : Nat → Int32} {p_words : Nat → Int32} {p_home : Nat → Int32} {n1 : Int32} {n2 : Int32} {ex : Nat} {r : Int32} {o_x_missing : Int32} {o_x_misused : Int32} (C : Cx J Z cX9_coming 5 RX9 (some .int) rm_X9_coming) (hJ : J.1.stackTraces = false) (E : EzX J Z 2 12 ex (some (.int r)) (fun _ : Unit => cs_X9 (a0 0) k_tape (a1 0) k_trial k_task k_season k_stuffing k_images k_row (a2 0) k_sparePlan k_rule k_spareRule k_notes k_spareNotes x_latest x_imageMany x_refusedSteps o_x_missing o_x_misused ++ cs_X4 J.2.2.1 a1 s_year s_wet s_lost s_eaten s_tied s_ripeMany s_gone s_place s_heard s_many s_lying s_ripe ++ cs_X2 J.2.2.1 a2 p_beds p_letters p_readers p_far p_drain p_length p_words p_home)) : ∀ (n : Nat) (x3 : Int32) (x4 : Int32) (x_missing : Int32) (x_misused : Int32), f_X9_coming_24 s_tied s_gone p_beds p_letters p_drain p_length n1 n2 n x3 x4 x_missing x_misused = some (ex, r, o_x_missing, o_x_misused) → G J Z 2 12 (cs_X9 (a0 0) k_tape (a1 0) k_trial k_task k_season k_stuffing k_images k_row (a2 0) k_sparePlan k_rule k_spareRule k_notes k_spareNotes x_latest x_imageMany x_refusedSteps x_missing x_misused ++ cs_X4 J.2.2.1 a1 s_year s_wet s_lost s_eaten s_tied s_ripeMany s_gone s_place s_heard s_many s_lying s_ripe ++ cs_X2 J.2.2.1 a2 p_beds p_letters p_readers p_far p_drain p_length p_words p_home) 5 [(0, .ref (a0 0)), (1, .int n1), (2, .int n2), (3, .int x3), (4, .int x4)] 24 [] := by
  intro n
  induction n with
  | zero =>
    intro x3 x4 x_missing x_misused h
    rw [f_X9_coming_24] at h
    cases h
  | succ n ih =>
    intro x3 x4 x_missing x_misused h
    rw [f_X9_coming_24] at h
    refine g_iload (pc := 24) C 4 rfl dX9_coming_24 ?_
    refine g_aload_n (pc := 26) C 0 rfl dX9_coming_26 ?_
    refine g_get (pc := 27) C FOK_X9 0 rfl rfl 8 (by decide) kw_375 rfl dX9_coming_27 ?_
    refine g_get (pc := 30) C FOK_X2 8 rfl rfl 1 (by decide) kw_283 rfl dX9_coming_30 ?_
    refine g_icmp_ge (pc := 33) C (tgt := 93) dX9_coming_33 rfl h (fun h => ?_) (fun h => ?_)
    · refine g_iload_n (pc := 93) C 3 rfl dX9_coming_93 ?_
      cases h
      exact g_iretX C E () rfl dX9_coming_94
    · refine g_aload_n (pc := 36) C 0 rfl dX9_coming_36 ?_
      refine g_get (pc := 37) C FOK_X9 0 rfl rfl 8 (by decide) kw_375 rfl dX9_coming_37 ?_
      refine g_get (pc := 40) C FOK_X2 8 rfl rfl 4 (by decide) kw_295 rfl dX9_coming_40 ?_
      refine g_iload (pc := 43) C 4 rfl dX9_coming_43 ?_
      obtain ⟨hi, h⟩ := ix_of h
      refine g_iald (pc := 45) C 10 rfl hi dX9_coming_45 ?_
      refine g_iload_n (pc := 46) C 1 rfl dX9_coming_46 ?_
      refine g_icmp_ne (pc := 47) C (tgt := 87) dX9_coming_47 rfl h (fun h => ?_) (fun h => ?_)
      · refine g_iinc (pc := 87) C (j := 4) [(4, .int (x4 + 1)), (0, .ref (a0 0)), (1, .int n1), (2, .int n2), (3, .int x3)] dX9_coming_87 rfl (ii_1 _) (by decide) rfl ?_
        refine g_goto (pc := 90) C (tgt := 24) dX9_coming_90 rfl ?_
        refine g_lv [1, 2, 3, 4, 0] rfl ?_
        exact ih x3 (x4 + 1) x_missing x_misused h
      · refine g_aload_n (pc := 50) C 0 rfl dX9_coming_50 ?_
        refine g_get (pc := 51) C FOK_X9 0 rfl rfl 1 (by decide) kw_368 rfl dX9_coming_51 ?_
        refine g_iload (pc := 54) C 4 rfl dX9_coming_54 ?_
        obtain ⟨v2, hc, h⟩ := b1_of h
        refine g_callV (pc := 56) C (w' := cs_X9 (a0 0) k_tape (a1 0) k_trial k_task k_season k_stuffing k_images k_row (a2 0) k_sparePlan k_rule k_spareRule k_notes k_spareNotes x_latest x_imageMany x_refusedSteps x_missing x_misused ++ cs_X4 J.2.2.1 a1 s_year s_wet s_lost s_eaten s_tied s_ripeMany s_gone s_place s_heard s_many s_lying s_ripe ++ cs_X2 J.2.2.1 a2 p_beds p_letters p_readers p_far p_drain p_length p_words p_home) (As := [.int x4]) (st := []) (ci := 4) (q0 := 1) rfl rfl (t_X4_isTied (a0 := a1) (s_year := s_year) (s_wet := s_wet) (s_lost := s_lost) (s_eaten := s_eaten) (s_tied := s_tied) (s_ripeMany := s_ripeMany) (s_gone := s_gone) (s_place := s_place) (s_heard := s_heard) (s_many := s_many) (s_lying := s_lying) (s_ripe := s_ripe) hc) (Sub.blk 3 [cs_X9 (a0 0) k_tape (a1 0) k_trial k_task k_season k_stuffing k_images k_row (a2 0) k_sparePlan k_rule k_spareRule k_notes k_spareNotes x_latest x_imageMany x_refusedSteps x_missing x_misused, cs_X4 J.2.2.1 a1 s_year s_wet s_lost s_eaten s_tied s_ripeMany s_gone s_place s_heard s_many s_lying s_ripe, cs_X2 J.2.2.1 a2 p_beds p_letters p_readers p_far p_drain p_length p_words p_home] [cs_X9 (a0 0) k_tape (a1 0) k_trial k_task k_season k_stuffing k_images k_row (a2 0) k_sparePlan k_rule k_spareRule k_notes k_spareNotes x_latest x_imageMany x_refusedSteps x_missing x_misused, cs_X4 J.2.2.1 a1 s_year s_wet s_lost s_eaten s_tied s_ripeMany s_gone s_place s_heard s_many s_lying s_ripe, cs_X2 J.2.2.1 a2 p_beds p_letters p_readers p_far p_drain p_length p_words p_home] [0, 2] [1] rfl (by simp only [List.flatten_cons, List.flatten_nil, List.append_nil, List.append_assoc]) (by simp only [List.flatten_cons, List.flatten_nil, List.append_nil, List.append_assoc]) rfl rfl rfl (by decide) (by simp only [List.map_cons, List.map_nil, List.getD_cons_zero, List.getD_cons_succ, List.flatten_cons, List.flatten_nil, List.append_nil, List.append_assoc]) (by simp only [List.map_cons, List.map_nil, List.getD_cons_zero, List.getD_cons_succ, List.flatten_cons, List.flatten_nil, List.append_nil, List.append_assoc])) kw_977 kw_891 kw_892 kw_88 hy_X4_isTied kw_893 rfl (Nat.le_of_ble_eq_true rfl) (Nat.le_of_ble_eq_true rfl) (Nat.le_of_ble_eq_true rfl) (Nat.le_of_ble_eq_true rfl) (Nat.le_of_ble_eq_true rfl) dX9_coming_56 ?_
        refine g_iload_n (pc := 59) C 2 rfl dX9_coming_59 ?_
        refine g_if_ne (pc := 60) C (tgt := 67) dX9_coming_60 rfl h (fun h => ?_) (fun h => ?_)
        · refine g_iconst (pc := 67) C dX9_coming_67 ci_0 ?_
          exact j_X9_coming_68 C hJ E   ih x3 x4 v2 0 x_missing x_misused h
        · refine g_iconst (pc := 63) C dX9_coming_63 ci_1 ?_
          refine g_goto (pc := 64) C (tgt := 68) dX9_coming_64 rfl ?_
          exact j_X9_coming_68 C hJ E   ih x3 x4 v2 1 x_missing x_misused h
set_option maxRecDepth 100000 in
set_option maxHeartbeats 4000000 in
theorem t_X9_coming {J : Jt} {a0 : Nat → Nat} {a1 : Nat → Nat} {a2 : Nat → Nat} {k_tape : Nat} {k_trial : Nat} {k_task : Nat} {k_season : Nat} {k_stuffing : Nat} {k_images : Nat} {k_row : Nat} {k_sparePlan : Nat} {k_rule : Nat} {k_spareRule : Nat} {k_notes : Nat} {k_spareNotes : Nat} {x_latest : Value} {x_imageMany : Int32} {x_refusedSteps : Int32} {x_missing : Int32} {x_misused : Int32} {s_year : Int32} {s_wet : Int32} {s_lost : Int32} {s_eaten : Int32} {s_tied : Int32} {s_ripeMany : Int32} {s_gone : Nat → Int32} {s_place : Nat → Int32} {s_heard : Nat → Int32} {s_many : Nat → Int32} {s_lying : Nat → Int32} {s_ripe : Nat → Int32} {p_beds : Int32} {p_letters : Int32} {p_readers : Int32} {p_far : Nat → Int32} {p_drain : Nat → Int32} {p_length : Nat → Int32} {p_words : Nat → Int32} {p_home : Nat → Int32} {n1 : Int32} {n2 : Int32} {ex : Nat} {r : Int32} {o_x_missing : Int32} {o_x_misused : Int32} (hJ : J.1.stackTraces = false) (h : f_X9_coming x_missing x_misused s_tied s_gone p_beds p_letters p_drain p_length n1 n2 = some (ex, r, o_x_missing, o_x_misused)) : MtX J yX9_coming cX9_coming 5 (some .int) rm_X9_coming [.ref (a0 0), .int n1, .int n2] (cs_X9 (a0 0) k_tape (a1 0) k_trial k_task k_season k_stuffing k_images k_row (a2 0) k_sparePlan k_rule k_spareRule k_notes k_spareNotes x_latest x_imageMany x_refusedSteps x_missing x_misused ++ cs_X4 J.2.2.1 a1 s_year s_wet s_lost s_eaten s_tied s_ripeMany s_gone s_place s_heard s_many s_lying s_ripe ++ cs_X2 J.2.2.1 a2 p_beds p_letters p_readers p_far p_drain p_length p_words p_home) ex (some (.int r)) (fun _ : Unit => cs_X9 (a0 0) k_tape (a1 0) k_trial k_task k_season k_stuffing k_images k_row (a2 0) k_sparePlan k_rule k_spareRule k_notes k_spareNotes x_latest x_imageMany x_refusedSteps o_x_missing o_x_misused ++ cs_X4 J.2.2.1 a1 s_year s_wet s_lost s_eaten s_tied s_ripeMany s_gone s_place s_heard s_many s_lying s_ripe ++ cs_X2 J.2.2.1 a2 p_beds p_letters p_readers p_far p_drain p_length p_words p_home) := by
  refine MtX_of (own := RX9) (by decide) rfl (Nat.le_of_ble_eq_true rfl) rfl (fun Z C E => ?_)
  unfold f_X9_coming at h
  show G J Z 0 0 (cs_X9 (a0 0) k_tape (a1 0) k_trial k_task k_season k_stuffing k_images k_row (a2 0) k_sparePlan k_rule k_spareRule k_notes k_spareNotes x_latest x_imageMany x_refusedSteps x_missing x_misused ++ cs_X4 J.2.2.1 a1 s_year s_wet s_lost s_eaten s_tied s_ripeMany s_gone s_place s_heard s_many s_lying s_ripe ++ cs_X2 J.2.2.1 a2 p_beds p_letters p_readers p_far p_drain p_length p_words p_home) 5 [(0, .ref (a0 0)), (1, .int n1), (2, .int n2)] 0 []
  refine g_aload_n (pc := 0) C 0 rfl dX9_coming_0 ?_
  refine g_iload_n (pc := 1) C 1 rfl dX9_coming_1 ?_
  refine g_aload_n (pc := 2) C 0 rfl dX9_coming_2 ?_
  refine g_get (pc := 3) C FOK_X9 0 rfl rfl 8 (by decide) kw_375 rfl dX9_coming_3 ?_
  refine g_get (pc := 6) C FOK_X2 8 rfl rfl 0 (by decide) kw_279 rfl dX9_coming_6 ?_
  obtain ⟨e3, c4, hc, h⟩ := b2_of h
  refine g_xcallU (pc := 9) C (w' := cs_X9 (a0 0) k_tape (a1 0) k_trial k_task k_season k_stuffing k_images k_row (a2 0) k_sparePlan k_rule k_spareRule k_notes k_spareNotes x_latest x_imageMany x_refusedSteps c4 x_misused ++ cs_X4 J.2.2.1 a1 s_year s_wet s_lost s_eaten s_tied s_ripeMany s_gone s_place s_heard s_many s_lying s_ripe ++ cs_X2 J.2.2.1 a2 p_beds p_letters p_readers p_far p_drain p_length p_words p_home) (As := [.int n1, .int p_beds]) (st := []) (ci := 9) (q0 := 0) rfl rfl (t_X9_needOneOf (k_tape := k_tape) (k_now := (a1 0)) (k_trial := k_trial) (k_task := k_task) (k_season := k_season) (k_stuffing := k_stuffing) (k_images := k_images) (k_row := k_row) (k_plan := (a2 0)) (k_sparePlan := k_sparePlan) (k_rule := k_rule) (k_spareRule := k_spareRule) (k_notes := k_notes) (k_spareNotes := k_spareNotes) (a0 := a0) (x_latest := x_latest) (x_imageMany := x_imageMany) (x_refusedSteps := x_refusedSteps) (x_missing := x_missing) (x_misused := x_misused) hJ hc) (Sub.blk 3 [cs_X9 (a0 0) k_tape (a1 0) k_trial k_task k_season k_stuffing k_images k_row (a2 0) k_sparePlan k_rule k_spareRule k_notes k_spareNotes x_latest x_imageMany x_refusedSteps x_missing x_misused, cs_X4 J.2.2.1 a1 s_year s_wet s_lost s_eaten s_tied s_ripeMany s_gone s_place s_heard s_many s_lying s_ripe, cs_X2 J.2.2.1 a2 p_beds p_letters p_readers p_far p_drain p_length p_words p_home] [cs_X9 (a0 0) k_tape (a1 0) k_trial k_task k_season k_stuffing k_images k_row (a2 0) k_sparePlan k_rule k_spareRule k_notes k_spareNotes x_latest x_imageMany x_refusedSteps c4 x_misused, cs_X4 J.2.2.1 a1 s_year s_wet s_lost s_eaten s_tied s_ripeMany s_gone s_place s_heard s_many s_lying s_ripe, cs_X2 J.2.2.1 a2 p_beds p_letters p_readers p_far p_drain p_length p_words p_home] [1, 2] [0] rfl (by simp only [List.flatten_cons, List.flatten_nil, List.append_nil, List.append_assoc]) (by simp only [List.flatten_cons, List.flatten_nil, List.append_nil, List.append_assoc]) rfl rfl rfl (by decide) (by simp only [List.map_cons, List.map_nil, List.getD_cons_zero, List.getD_cons_succ, List.flatten_cons, List.flatten_nil, List.append_nil, List.append_assoc]) (by simp only [List.map_cons, List.map_nil, List.getD_cons_zero, List.getD_cons_succ, List.flatten_cons, List.flatten_nil, List.append_nil, List.append_assoc])) kw_956 kw_958 kw_12 kw_86 hy_X9_needOneOf kw_959 rfl (Nat.le_of_ble_eq_true rfl) (Nat.le_of_ble_eq_true rfl) (Nat.le_of_ble_eq_true rfl) (Nat.le_of_ble_eq_true rfl) (Nat.le_of_ble_eq_true rfl) dX9_coming_9 (fun he => ?_) (fun he => ?_)
  · subst he
    rw [if_pos rfl] at h
    refine g_wid (n' := 1) (k' := 6) (Nat.le_of_ble_eq_true rfl) (Nat.le_of_ble_eq_true rfl) ?_
    refine g_aload_n (pc := 12) C 0 rfl dX9_coming_12 ?_
    refine g_iload_n (pc := 13) C 2 rfl dX9_coming_13 ?_
    refine g_iconst (pc := 14) C dX9_coming_14 ci_0 ?_
    refine g_iconst (pc := 15) C dX9_coming_15 ci_1 ?_
    obtain ⟨e5, c6, hc, h⟩ := b2_of h
    refine g_xcallU (pc := 16) C (w' := cs_X9 (a0 0) k_tape (a1 0) k_trial k_task k_season k_stuffing k_images k_row (a2 0) k_sparePlan k_rule k_spareRule k_notes k_spareNotes x_latest x_imageMany x_refusedSteps c4 c6 ++ cs_X4 J.2.2.1 a1 s_year s_wet s_lost s_eaten s_tied s_ripeMany s_gone s_place s_heard s_many s_lying s_ripe ++ cs_X2 J.2.2.1 a2 p_beds p_letters p_readers p_far p_drain p_length p_words p_home) (As := [.int n2, .int 0, .int 1]) (st := []) (ci := 9) (q0 := 0) rfl rfl (t_X9_needRange (k_tape := k_tape) (k_now := (a1 0)) (k_trial := k_trial) (k_task := k_task) (k_season := k_season) (k_stuffing := k_stuffing) (k_images := k_images) (k_row := k_row) (k_plan := (a2 0)) (k_sparePlan := k_sparePlan) (k_rule := k_rule) (k_spareRule := k_spareRule) (k_notes := k_notes) (k_spareNotes := k_spareNotes) (a0 := a0) (x_latest := x_latest) (x_imageMany := x_imageMany) (x_refusedSteps := x_refusedSteps) (x_missing := c4) (x_misused := x_misused) hJ hc) (Sub.blk 3 [cs_X9 (a0 0) k_tape (a1 0) k_trial k_task k_season k_stuffing k_images k_row (a2 0) k_sparePlan k_rule k_spareRule k_notes k_spareNotes x_latest x_imageMany x_refusedSteps c4 x_misused, cs_X4 J.2.2.1 a1 s_year s_wet s_lost s_eaten s_tied s_ripeMany s_gone s_place s_heard s_many s_lying s_ripe, cs_X2 J.2.2.1 a2 p_beds p_letters p_readers p_far p_drain p_length p_words p_home] [cs_X9 (a0 0) k_tape (a1 0) k_trial k_task k_season k_stuffing k_images k_row (a2 0) k_sparePlan k_rule k_spareRule k_notes k_spareNotes x_latest x_imageMany x_refusedSteps c4 c6, cs_X4 J.2.2.1 a1 s_year s_wet s_lost s_eaten s_tied s_ripeMany s_gone s_place s_heard s_many s_lying s_ripe, cs_X2 J.2.2.1 a2 p_beds p_letters p_readers p_far p_drain p_length p_words p_home] [1, 2] [0] rfl (by simp only [List.flatten_cons, List.flatten_nil, List.append_nil, List.append_assoc]) (by simp only [List.flatten_cons, List.flatten_nil, List.append_nil, List.append_assoc]) rfl rfl rfl (by decide) (by simp only [List.map_cons, List.map_nil, List.getD_cons_zero, List.getD_cons_succ, List.flatten_cons, List.flatten_nil, List.append_nil, List.append_assoc]) (by simp only [List.map_cons, List.map_nil, List.getD_cons_zero, List.getD_cons_succ, List.flatten_cons, List.flatten_nil, List.append_nil, List.append_assoc])) kw_545 kw_547 kw_2 kw_86 hy_X9_needRange kw_548 rfl (Nat.le_of_ble_eq_true rfl) (Nat.le_of_ble_eq_true rfl) (Nat.le_of_ble_eq_true rfl) (Nat.le_of_ble_eq_true rfl) (Nat.le_of_ble_eq_true rfl) dX9_coming_16 (fun he => ?_) (fun he => ?_)
    · subst he
      rw [if_pos rfl] at h
      refine g_wid (n' := 2) (k' := 12) (Nat.le_of_ble_eq_true rfl) (Nat.le_of_ble_eq_true rfl) ?_
      refine g_iconst (pc := 19) C dX9_coming_19 ci_0 ?_
      refine g_istore_n (pc := 20) C [(3, .int 0), (0, .ref (a0 0)), (1, .int n1), (2, .int n2)] dX9_coming_20 rfl (by decide) rfl ?_
      refine g_iconst (pc := 21) C dX9_coming_21 ci_0 ?_
      refine g_istore (pc := 22) C [(4, .int 0), (3, .int 0), (0, .ref (a0 0)), (1, .int n1), (2, .int n2)] dX9_coming_22 (by decide) rfl ?_
      refine g_lv [2, 3, 4, 1, 0] rfl ?_
      exact j_X9_coming_24 C hJ E    FU 0 0 c4 c6 h
    · rw [if_neg he] at h
      cases h
      exact gt_out C he E (Nat.le_of_ble_eq_true rfl) (Nat.le_of_ble_eq_true rfl) () rfl
  · rw [if_neg he] at h
    cases h
    exact gt_out C he E (Nat.le_of_ble_eq_true rfl) (Nat.le_of_ble_eq_true rfl) () rfl
