noncomputable def f_X2_readReader (p_beds : Int32) (p_readers : Int32) (p_home : Nat → Int32) (t_bytes : Nat → Int32) (t_end : Int32) (t_at : Int32) (t_start : Int32) (t_faultKind : Int32) (t_faultPlace : Int32) : Option (Int32 × (Nat → Int32) × Int32 × Int32 × Int32 × Int32) := if p_readers < 5 then b5 (f_X7_number t_bytes t_end t_at t_start t_faultKind t_faultPlace 0 (p_beds - 1)) (fun v1 c2 c3 c4 c5 => if ixb p_readers 5 then some (p_readers + 1, upd p_home p_readers.toNatClampNeg v1, c2, c3, c4, c5) else none) else b2 (f_X7_blame t_start t_faultKind t_faultPlace 3) (fun c6 c7 => some (p_readers, p_home, t_at, t_start, c6, c7))
def rm_X2_readReader : Room := { frames := 2, cells := 0, slots := 0, locals := 63 }
set_option maxRecDepth 100000 in
set_option maxHeartbeats 4000000 in
theorem t_X2_readReader {J : Jt} {a0 : Nat → Nat} {a1 : Nat → Nat} {p_beds : Int32} {p_letters : Int32} {p_readers : Int32} {p_far : Nat → Int32} {p_drain : Nat → Int32} {p_length : Nat → Int32} {p_words : Nat → Int32} {p_home : Nat → Int32} {t_bytes : Nat → Int32} {t_held : Int32} {t_end : Int32} {t_at : Int32} {t_start : Int32} {t_faultKind : Int32} {t_faultPlace : Int32} {o_p_readers : Int32} {o_p_home : Nat → Int32} {o_t_at : Int32} {o_t_start : Int32} {o_t_faultKind : Int32} {o_t_faultPlace : Int32} (h : f_X2_readReader p_beds p_readers p_home t_bytes t_end t_at t_start t_faultKind t_faultPlace = some (o_p_readers, o_p_home, o_t_at, o_t_start, o_t_faultKind, o_t_faultPlace)) : Mt J yX2_readReader cX2_readReader 2 none rm_X2_readReader [.ref (a0 0), .ref (a1 0)] (cs_X2 J.2.2.1 a0 p_beds p_letters p_readers p_far p_drain p_length p_words p_home ++ cs_X7 J.2.2.1 a1 t_bytes t_held t_end t_at t_start t_faultKind t_faultPlace) none (cs_X2 J.2.2.1 a0 p_beds p_letters o_p_readers p_far p_drain p_length p_words o_p_home ++ cs_X7 J.2.2.1 a1 t_bytes t_held t_end o_t_at o_t_start o_t_faultKind o_t_faultPlace) := by
  refine Mt_of (own := RX2) (by decide) rfl (Nat.le_of_ble_eq_true rfl) rfl (fun Z C E => ?_)
  unfold f_X2_readReader at h
  show G J Z 0 0 (cs_X2 J.2.2.1 a0 p_beds p_letters p_readers p_far p_drain p_length p_words p_home ++ cs_X7 J.2.2.1 a1 t_bytes t_held t_end t_at t_start t_faultKind t_faultPlace) 2 [(0, .ref (a0 0)), (1, .ref (a1 0))] 0 []
  refine g_aload_n (pc := 0) C 0 rfl dX2_readReader_0 ?_
  refine g_get (pc := 1) C FOK_X2 0 rfl rfl 2 (by decide) kw_286 rfl dX2_readReader_1 ?_
  refine g_iconst (pc := 4) C dX2_readReader_4 ci_5 ?_
  refine g_icmp_lt (pc := 5) C (tgt := 14) dX2_readReader_5 rfl h (fun h => ?_) (fun h => ?_)
  · refine g_aload_n (pc := 14) C 0 rfl dX2_readReader_14 ?_
    refine g_get (pc := 15) C FOK_X2 0 rfl rfl 7 (by decide) kw_302 rfl dX2_readReader_15 ?_
    refine g_aload_n (pc := 18) C 0 rfl dX2_readReader_18 ?_
    refine g_get (pc := 19) C FOK_X2 0 rfl rfl 2 (by decide) kw_286 rfl dX2_readReader_19 ?_
    refine g_aload_n (pc := 22) C 1 rfl dX2_readReader_22 ?_
    refine g_iconst (pc := 23) C dX2_readReader_23 ci_0 ?_
    refine g_aload_n (pc := 24) C 0 rfl dX2_readReader_24 ?_
    refine g_get (pc := 25) C FOK_X2 0 rfl rfl 0 (by decide) kw_275 rfl dX2_readReader_25 ?_
    refine g_iconst (pc := 28) C dX2_readReader_28 ci_1 ?_
    refine g_isub (pc := 29) C dX2_readReader_29 ?_
    obtain ⟨v1, c2, c3, c4, c5, hc, h⟩ := b5_of h
    refine g_callV (pc := 30) C (w' := cs_X2 J.2.2.1 a0 p_beds p_letters p_readers p_far p_drain p_length p_words p_home ++ cs_X7 J.2.2.1 a1 t_bytes t_held t_end c2 c3 c4 c5) (As := [.int 0, .int (p_beds - 1)]) (st := [.int p_readers, .ref (a0 5)]) (ci := 7) (q0 := 6) rfl rfl (t_X7_number (a0 := a1) hc) (Sub.gen [6, 7] [0, 1, 2, 3, 4, 5] [0, 1, 2, 3, 4, 5, 6, 7] rfl (by decide) rfl (by decide) (by decide) rfl (by decide)) kw_699 kw_700 kw_701 kw_87 hy_X7_number kw_702 rfl (Nat.le_of_ble_eq_true rfl) (Nat.le_of_ble_eq_true rfl) (Nat.le_of_ble_eq_true rfl) (Nat.le_of_ble_eq_true rfl) (Nat.le_of_ble_eq_true rfl) dX2_readReader_30 ?_
    obtain ⟨hi, h⟩ := ix_of h
    refine g_iast (pc := 33) C (w' := cs_X2 J.2.2.1 a0 p_beds p_letters p_readers p_far p_drain p_length p_words (upd p_home p_readers.toNatClampNeg v1) ++ cs_X7 J.2.2.1 a1 t_bytes t_held t_end c2 c3 c4 c5) 5 rfl hi dX2_readReader_33 rfl ?_
    refine g_aload_n (pc := 34) C 0 rfl dX2_readReader_34 ?_
    refine g_dup (pc := 35) C dX2_readReader_35 rfl ?_
    refine g_get (pc := 36) C FOK_X2 0 rfl rfl 2 (by decide) kw_286 rfl dX2_readReader_36 ?_
    refine g_iconst (pc := 39) C dX2_readReader_39 ci_1 ?_
    refine g_iadd (pc := 40) C dX2_readReader_40 ?_
    refine g_put (pc := 41) C (w' := cs_X2 J.2.2.1 a0 p_beds p_letters (p_readers + 1) p_far p_drain p_length p_words (upd p_home p_readers.toNatClampNeg v1) ++ cs_X7 J.2.2.1 a1 t_bytes t_held t_end c2 c3 c4 c5) FOK_X2 0 rfl rfl 2 (by decide) kw_286 rfl rfl rfl (Nat.le_of_ble_eq_true rfl) dX2_readReader_41 rfl ?_
    cases h
    exact g_vret C E dX2_readReader_44
  · refine g_aload_n (pc := 8) C 1 rfl dX2_readReader_8 ?_
    refine g_iconst (pc := 9) C dX2_readReader_9 ci_3 ?_
    obtain ⟨c6, c7, hc, h⟩ := b2_of h
    refine g_callV (pc := 10) C (w' := cs_X2 J.2.2.1 a0 p_beds p_letters p_readers p_far p_drain p_length p_words p_home ++ cs_X7 J.2.2.1 a1 t_bytes t_held t_end t_at t_start c6 c7) (As := [.int 3]) (st := []) (ci := 7) (q0 := 6) rfl rfl (t_X7_blame (a0 := a1) hc) (Sub.gen [6, 7] [0, 1, 2, 3, 4, 5] [0, 1, 2, 3, 4, 5, 6, 7] rfl (by decide) rfl (by decide) (by decide) rfl (by decide)) kw_695 kw_696 kw_697 kw_87 hy_X7_blame kw_698 rfl (Nat.le_of_ble_eq_true rfl) (Nat.le_of_ble_eq_true rfl) (Nat.le_of_ble_eq_true rfl) (Nat.le_of_ble_eq_true rfl) (Nat.le_of_ble_eq_true rfl) dX2_readReader_10 ?_
    cases h
    exact g_vret C E dX2_readReader_13
noncomputable def f_X2_readClause (p_beds : Int32) (p_letters : Int32) (p_readers : Int32) (p_far : Nat → Int32) (p_drain : Nat → Int32) (p_length : Nat → Int32) (p_words : Nat → Int32) (p_home : Nat → Int32) (t_bytes : Nat → Int32) (t_end : Int32) (t_at : Int32) (t_start : Int32) (t_faultKind : Int32) (t_faultPlace : Int32) : Option (Int32 × Int32 × Int32 × (Nat → Int32) × (Nat → Int32) × (Nat → Int32) × (Nat → Int32) × (Nat → Int32) × Int32 × Int32 × Int32 × Int32) := b3 (f_X7_takes_ t_bytes t_end t_at t_start t_faultKind 0) (fun v1 c2 c3 => if v1 = 0 then b3 (f_X7_takes_ t_bytes t_end c2 c3 t_faultKind 1) (fun v4 c5 c6 => if v4 = 0 then b3 (f_X7_takes_ t_bytes t_end c5 c6 t_faultKind 2) (fun v7 c8 c9 => if v7 = 0 then b2 (f_X7_blame c9 t_faultKind t_faultPlace 1) (fun c10 c11 => some (p_beds, p_letters, p_readers, p_far, p_drain, p_length, p_words, p_home, c8, c9, c10, c11)) else b6 (f_X2_readReader p_beds p_readers p_home t_bytes t_end c8 c9 t_faultKind t_faultPlace) (fun c12 c13 c14 c15 c16 c17 => some (p_beds, p_letters, c12, p_far, p_drain, p_length, p_words, c13, c14, c15, c16, c17))) else b8 (f_X2_readLetter p_beds p_letters p_drain p_length p_words t_bytes t_end c5 c6 t_faultKind t_faultPlace) (fun c18 c19 c20 c21 c22 c23 c24 c25 => some (p_beds, c18, p_readers, p_far, c19, c20, c21, p_home, c22, c23, c24, c25))) else b6 (f_X2_readBed p_beds p_far t_bytes t_end c2 c3 t_faultKind t_faultPlace) (fun c26 c27 c28 c29 c30 c31 => some (c26, p_letters, p_readers, c27, p_drain, p_length, p_words, p_home, c28, c29, c30, c31)))
def rm_X2_readClause : Room := { frames := 5, cells := 0, slots := 0, locals := 164 }
set_option maxRecDepth 100000 in
set_option maxHeartbeats 4000000 in
theorem t_X2_readClause {J : Jt} {a0 : Nat → Nat} {a1 : Nat → Nat} {p_beds : Int32} {p_letters : Int32} {p_readers : Int32} {p_far : Nat → Int32} {p_drain : Nat → Int32} {p_length : Nat → Int32} {p_words : Nat → Int32} {p_home : Nat → Int32} {t_bytes : Nat → Int32} {t_held : Int32} {t_end : Int32} {t_at : Int32} {t_start : Int32} {t_faultKind : Int32} {t_faultPlace : Int32} {o_p_beds : Int32} {o_p_letters : Int32} {o_p_readers : Int32} {o_p_far : Nat → Int32} {o_p_drain : Nat → Int32} {o_p_length : Nat → Int32} {o_p_words : Nat → Int32} {o_p_home : Nat → Int32} {o_t_at : Int32} {o_t_start : Int32} {o_t_faultKind : Int32} {o_t_faultPlace : Int32} (h : f_X2_readClause p_beds p_letters p_readers p_far p_drain p_length p_words p_home t_bytes t_end t_at t_start t_faultKind t_faultPlace = some (o_p_beds, o_p_letters, o_p_readers, o_p_far, o_p_drain, o_p_length, o_p_words, o_p_home, o_t_at, o_t_start, o_t_faultKind, o_t_faultPlace)) : Mt J yX2_readClause cX2_readClause 2 none rm_X2_readClause [.ref (a0 0), .ref (a1 0)] (cs_X2 J.2.2.1 a0 p_beds p_letters p_readers p_far p_drain p_length p_words p_home ++ cs_X7 J.2.2.1 a1 t_bytes t_held t_end t_at t_start t_faultKind t_faultPlace) none (cs_X2 J.2.2.1 a0 o_p_beds o_p_letters o_p_readers o_p_far o_p_drain o_p_length o_p_words o_p_home ++ cs_X7 J.2.2.1 a1 t_bytes t_held t_end o_t_at o_t_start o_t_faultKind o_t_faultPlace) := by
  refine Mt_of (own := RX2) (by decide) rfl (Nat.le_of_ble_eq_true rfl) rfl (fun Z C E => ?_)
  unfold f_X2_readClause at h
  show G J Z 0 0 (cs_X2 J.2.2.1 a0 p_beds p_letters p_readers p_far p_drain p_length p_words p_home ++ cs_X7 J.2.2.1 a1 t_bytes t_held t_end t_at t_start t_faultKind t_faultPlace) 2 [(0, .ref (a0 0)), (1, .ref (a1 0))] 0 []
  refine g_aload_n (pc := 0) C 1 rfl dX2_readClause_0 ?_
  refine g_ldcS (pc := 1) C (i := 0) rfl dX2_readClause_1 ?_
  obtain ⟨v1, c2, c3, hc, h⟩ := b3_of h
  refine g_callV (pc := 3) C (w' := cs_X2 J.2.2.1 a0 p_beds p_letters p_readers p_far p_drain p_length p_words p_home ++ cs_X7 J.2.2.1 a1 t_bytes t_held t_end c2 c3 t_faultKind t_faultPlace) (As := [.ref (J.2.2.2.1 0)]) (st := []) (ci := 7) (q0 := 6) rfl rfl (t_X7_takes_ (a0 := a1) (by decide) hc) (Sub.gen [6, 7] [0, 1, 2, 3, 4, 5] [0, 1, 2, 3, 4, 5, 6, 7] rfl (by decide) rfl (by decide) (by decide) rfl (by decide)) kw_632 kw_633 kw_634 kw_87 hy_X7_takes_ kw_635 rfl (Nat.le_of_ble_eq_true rfl) (Nat.le_of_ble_eq_true rfl) (Nat.le_of_ble_eq_true rfl) (Nat.le_of_ble_eq_true rfl) (Nat.le_of_ble_eq_true rfl) dX2_readClause_3 ?_
  refine g_if_eq (pc := 6) C (tgt := 17) dX2_readClause_6 rfl h (fun h => ?_) (fun h => ?_)
  · refine g_aload_n (pc := 17) C 1 rfl dX2_readClause_17 ?_
    refine g_ldcS (pc := 18) C (i := 1) rfl dX2_readClause_18 ?_
    obtain ⟨v4, c5, c6, hc, h⟩ := b3_of h
    refine g_callV (pc := 20) C (w' := cs_X2 J.2.2.1 a0 p_beds p_letters p_readers p_far p_drain p_length p_words p_home ++ cs_X7 J.2.2.1 a1 t_bytes t_held t_end c5 c6 t_faultKind t_faultPlace) (As := [.ref (J.2.2.2.1 1)]) (st := []) (ci := 7) (q0 := 6) rfl rfl (t_X7_takes_ (a0 := a1) (by decide) hc) (Sub.gen [6, 7] [0, 1, 2, 3, 4, 5] [0, 1, 2, 3, 4, 5, 6, 7] rfl (by decide) rfl (by decide) (by decide) rfl (by decide)) kw_632 kw_633 kw_634 kw_87 hy_X7_takes_ kw_635 rfl (Nat.le_of_ble_eq_true rfl) (Nat.le_of_ble_eq_true rfl) (Nat.le_of_ble_eq_true rfl) (Nat.le_of_ble_eq_true rfl) (Nat.le_of_ble_eq_true rfl) dX2_readClause_20 ?_
    refine g_if_eq (pc := 23) C (tgt := 34) dX2_readClause_23 rfl h (fun h => ?_) (fun h => ?_)
    · refine g_aload_n (pc := 34) C 1 rfl dX2_readClause_34 ?_
      refine g_ldcS (pc := 35) C (i := 2) rfl dX2_readClause_35 ?_
      obtain ⟨v7, c8, c9, hc, h⟩ := b3_of h
      refine g_callV (pc := 37) C (w' := cs_X2 J.2.2.1 a0 p_beds p_letters p_readers p_far p_drain p_length p_words p_home ++ cs_X7 J.2.2.1 a1 t_bytes t_held t_end c8 c9 t_faultKind t_faultPlace) (As := [.ref (J.2.2.2.1 2)]) (st := []) (ci := 7) (q0 := 6) rfl rfl (t_X7_takes_ (a0 := a1) (by decide) hc) (Sub.gen [6, 7] [0, 1, 2, 3, 4, 5] [0, 1, 2, 3, 4, 5, 6, 7] rfl (by decide) rfl (by decide) (by decide) rfl (by decide)) kw_632 kw_633 kw_634 kw_87 hy_X7_takes_ kw_635 rfl (Nat.le_of_ble_eq_true rfl) (Nat.le_of_ble_eq_true rfl) (Nat.le_of_ble_eq_true rfl) (Nat.le_of_ble_eq_true rfl) (Nat.le_of_ble_eq_true rfl) dX2_readClause_37 ?_
      refine g_if_eq (pc := 40) C (tgt := 51) dX2_readClause_40 rfl h (fun h => ?_) (fun h => ?_)
      · refine g_aload_n (pc := 51) C 1 rfl dX2_readClause_51 ?_
        refine g_iconst (pc := 52) C dX2_readClause_52 ci_1 ?_
        obtain ⟨c10, c11, hc, h⟩ := b2_of h
        refine g_callV (pc := 53) C (w' := cs_X2 J.2.2.1 a0 p_beds p_letters p_readers p_far p_drain p_length p_words p_home ++ cs_X7 J.2.2.1 a1 t_bytes t_held t_end c8 c9 c10 c11) (As := [.int 1]) (st := []) (ci := 7) (q0 := 6) rfl rfl (t_X7_blame (a0 := a1) hc) (Sub.gen [6, 7] [0, 1, 2, 3, 4, 5] [0, 1, 2, 3, 4, 5, 6, 7] rfl (by decide) rfl (by decide) (by decide) rfl (by decide)) kw_695 kw_696 kw_697 kw_87 hy_X7_blame kw_698 rfl (Nat.le_of_ble_eq_true rfl) (Nat.le_of_ble_eq_true rfl) (Nat.le_of_ble_eq_true rfl) (Nat.le_of_ble_eq_true rfl) (Nat.le_of_ble_eq_true rfl) dX2_readClause_53 ?_
        cases h
        exact g_vret C E dX2_readClause_56
      · refine g_aload_n (pc := 43) C 0 rfl dX2_readClause_43 ?_
        refine g_aload_n (pc := 44) C 1 rfl dX2_readClause_44 ?_
        obtain ⟨c12, c13, c14, c15, c16, c17, hc, h⟩ := b6_of h
        refine g_callV (pc := 45) C (w' := cs_X2 J.2.2.1 a0 p_beds p_letters c12 p_far p_drain p_length p_words c13 ++ cs_X7 J.2.2.1 a1 t_bytes t_held t_end c14 c15 c16 c17) (As := [.ref (a1 0)]) (st := []) (ci := 2) (q0 := 0) rfl rfl (t_X2_readReader (a0 := a0) (a1 := a1) hc) Sub.same kw_718 kw_719 kw_720 kw_92 hy_X2_readReader kw_721 rfl (Nat.le_of_ble_eq_true rfl) (Nat.le_of_ble_eq_true rfl) (Nat.le_of_ble_eq_true rfl) (Nat.le_of_ble_eq_true rfl) (Nat.le_of_ble_eq_true rfl) dX2_readClause_45 ?_
        refine g_goto (pc := 48) C (tgt := 56) dX2_readClause_48 rfl ?_
        cases h
        exact g_vret C E dX2_readClause_56
    · refine g_aload_n (pc := 26) C 0 rfl dX2_readClause_26 ?_
      refine g_aload_n (pc := 27) C 1 rfl dX2_readClause_27 ?_
      obtain ⟨c18, c19, c20, c21, c22, c23, c24, c25, hc, h⟩ := b8_of h
      refine g_callV (pc := 28) C (w' := cs_X2 J.2.2.1 a0 p_beds c18 p_readers p_far c19 c20 c21 p_home ++ cs_X7 J.2.2.1 a1 t_bytes t_held t_end c22 c23 c24 c25) (As := [.ref (a1 0)]) (st := []) (ci := 2) (q0 := 0) rfl rfl (t_X2_readLetter (a0 := a0) (a1 := a1) hc) Sub.same kw_709 kw_710 kw_711 kw_92 hy_X2_readLetter kw_712 rfl (Nat.le_of_ble_eq_true rfl) (Nat.le_of_ble_eq_true rfl) (Nat.le_of_ble_eq_true rfl) (Nat.le_of_ble_eq_true rfl) (Nat.le_of_ble_eq_true rfl) dX2_readClause_28 ?_
      refine g_goto (pc := 31) C (tgt := 56) dX2_readClause_31 rfl ?_
      cases h
      exact g_vret C E dX2_readClause_56
  · refine g_aload_n (pc := 9) C 0 rfl dX2_readClause_9 ?_
    refine g_aload_n (pc := 10) C 1 rfl dX2_readClause_10 ?_
    obtain ⟨c26, c27, c28, c29, c30, c31, hc, h⟩ := b6_of h
    refine g_callV (pc := 11) C (w' := cs_X2 J.2.2.1 a0 c26 p_letters p_readers c27 p_drain p_length p_words p_home ++ cs_X7 J.2.2.1 a1 t_bytes t_held t_end c28 c29 c30 c31) (As := [.ref (a1 0)]) (st := []) (ci := 2) (q0 := 0) rfl rfl (t_X2_readBed (a0 := a0) (a1 := a1) hc) Sub.same kw_691 kw_692 kw_693 kw_92 hy_X2_readBed kw_694 rfl (Nat.le_of_ble_eq_true rfl) (Nat.le_of_ble_eq_true rfl) (Nat.le_of_ble_eq_true rfl) (Nat.le_of_ble_eq_true rfl) (Nat.le_of_ble_eq_true rfl) dX2_readClause_11 ?_
    refine g_goto (pc := 14) C (tgt := 56) dX2_readClause_14 rfl ?_
    cases h
    exact g_vret C E dX2_readClause_56
noncomputable def f_X2_read_17  (t_bytes : Nat → Int32) (t_end : Int32) : Nat → Int32 → Int32 → Int32 → Int32 → (Nat → Int32) → (Nat → Int32) → (Nat → Int32) → (Nat → Int32) → (Nat → Int32) → Int32 → Int32 → Int32 → Int32 → Option (Int32 × Int32 × Int32 × (Nat → Int32) × (Nat → Int32) × (Nat → Int32) × (Nat → Int32) × (Nat → Int32) × Int32 × Int32 × Int32 × Int32)
  | 0, _, _, _, _, _, _, _, _, _, _, _, _, _ => none
  | n + 1, x2, p_beds, p_letters, p_readers, p_far, p_drain, p_length, p_words, p_home, t_at, t_start, t_faultKind, t_faultPlace => if 600 ≤ x2 then some (p_beds, p_letters, p_readers, p_far, p_drain, p_length, p_words, p_home, t_at, t_start, t_faultKind, t_faultPlace) else b3 (f_X7_isAtEnd t_bytes t_end t_at t_start t_faultKind) (fun v1 c2 c3 => if v1 = 0 then b12 (f_X2_readClause p_beds p_letters p_readers p_far p_drain p_length p_words p_home t_bytes t_end c2 c3 t_faultKind t_faultPlace) (fun c4 c5 c6 c7 c8 c9 c10 c11 c12 c13 c14 c15 => b4 (f_X7_need t_bytes t_end c12 c13 c14 c15 59) (fun c16 c17 c18 c19 => f_X2_read_17 t_bytes t_end n (x2 + 1) c4 c5 c6 c7 c8 c9 c10 c11 c16 c17 c18 c19)) else some (p_beds, p_letters, p_readers, p_far, p_drain, p_length, p_words, p_home, c2, c3, t_faultKind, t_faultPlace))
noncomputable def f_X2_read (p_beds : Int32) (p_letters : Int32) (p_readers : Int32) (p_far : Nat → Int32) (p_drain : Nat → Int32) (p_length : Nat → Int32) (p_words : Nat → Int32) (p_home : Nat → Int32) (t_bytes : Nat → Int32) (t_end : Int32) (t_at : Int32) (t_start : Int32) (t_faultKind : Int32) (t_faultPlace : Int32) : Option (Int32 × Int32 × Int32 × (Nat → Int32) × (Nat → Int32) × (Nat → Int32) × (Nat → Int32) × (Nat → Int32) × Int32 × Int32 × Int32 × Int32) := f_X2_read_17 t_bytes t_end FU 0 0 0 0 p_far p_drain p_length p_words p_home t_at t_start t_faultKind t_faultPlace
def rm_X2_read : Room := { frames := 6, cells := 0, slots := 0, locals := 185 }
set_option maxRecDepth 100000 in
set_option maxHeartbeats 4000000 in
theorem j_X2_read_17 {J : Jt} {Z : Zt} {a0 : Nat → Nat} {a1 : Nat → Nat} {t_bytes : Nat → Int32} {t_held : Int32} {t_end : Int32} {o_p_beds : Int32} {o_p_letters : Int32} {o_p_readers : Int32} {o_p_far : Nat → Int32} {o_p_drain : Nat → Int32} {o_p_length : Nat → Int32} {o_p_words : Nat → Int32} {o_p_home : Nat → Int32} {o_t_at : Int32} {o_t_start : Int32} {o_t_faultKind : Int32} {o_t_faultPlace : Int32} (C : Cx J Z cX2_read 3 RX2 none rm_X2_read) (E : Ez J Z 0 0 none (cs_X2 J.2.2.1 a0 o_p_beds o_p_letters o_p_readers o_p_far o_p_drain o_p_length o_p_words o_p_home ++ cs_X7 J.2.2.1 a1 t_bytes t_held t_end o_t_at o_t_start o_t_faultKind o_t_faultPlace)) : ∀ (n : Nat) (x2 : Int32) (p_beds : Int32) (p_letters : Int32) (p_readers : Int32) (p_far : Nat → Int32) (p_drain : Nat → Int32) (p_length : Nat → Int32) (p_words : Nat → Int32) (p_home : Nat → Int32) (t_at : Int32) (t_start : Int32) (t_faultKind : Int32) (t_faultPlace : Int32), f_X2_read_17 t_bytes t_end n x2 p_beds p_letters p_readers p_far p_drain p_length p_words p_home t_at t_start t_faultKind t_faultPlace = some (o_p_beds, o_p_letters, o_p_readers, o_p_far, o_p_drain, o_p_length, o_p_words, o_p_home, o_t_at, o_t_start, o_t_faultKind, o_t_faultPlace) → G J Z 0 0 (cs_X2 J.2.2.1 a0 p_beds p_letters p_readers p_far p_drain p_length p_words p_home ++ cs_X7 J.2.2.1 a1 t_bytes t_held t_end t_at t_start t_faultKind t_faultPlace) 3 [(0, .ref (a0 0)), (1, .ref (a1 0)), (2, .int x2)] 17 [] := by
  intro n
  induction n with
  | zero =>
    intro x2 p_beds p_letters p_readers p_far p_drain p_length p_words p_home t_at t_start t_faultKind t_faultPlace h
    rw [f_X2_read_17] at h
    cases h
  | succ n ih =>
    intro x2 p_beds p_letters p_readers p_far p_drain p_length p_words p_home t_at t_start t_faultKind t_faultPlace h
    rw [f_X2_read_17] at h
    refine g_iload_n (pc := 17) C 2 rfl dX2_read_17 ?_
    refine g_sipush (pc := 18) C dX2_read_18 cs_600 ?_
    refine g_icmp_ge (pc := 21) C (tgt := 48) dX2_read_21 rfl h (fun h => ?_) (fun h => ?_)
    · cases h
      exact g_vret C E dX2_read_48
    · refine g_aload_n (pc := 24) C 1 rfl dX2_read_24 ?_
      obtain ⟨v1, c2, c3, hc, h⟩ := b3_of h
      refine g_callV (pc := 25) C (w' := cs_X2 J.2.2.1 a0 p_beds p_letters p_readers p_far p_drain p_length p_words p_home ++ cs_X7 J.2.2.1 a1 t_bytes t_held t_end c2 c3 t_faultKind t_faultPlace) (As := []) (st := []) (ci := 7) (q0 := 6) rfl rfl (t_X7_isAtEnd (a0 := a1) hc) (Sub.gen [6, 7] [0, 1, 2, 3, 4, 5] [0, 1, 2, 3, 4, 5, 6, 7] rfl (by decide) rfl (by decide) (by decide) rfl (by decide)) kw_619 kw_620 kw_621 kw_87 hy_X7_isAtEnd kw_622 rfl (Nat.le_of_ble_eq_true rfl) (Nat.le_of_ble_eq_true rfl) (Nat.le_of_ble_eq_true rfl) (Nat.le_of_ble_eq_true rfl) (Nat.le_of_ble_eq_true rfl) dX2_read_25 ?_
      refine g_if_ne (pc := 28) C (tgt := 48) dX2_read_28 rfl h (fun h => ?_) (fun h => ?_)
      · cases h
        exact g_vret C E dX2_read_48
      · refine g_aload_n (pc := 31) C 0 rfl dX2_read_31 ?_
        refine g_aload_n (pc := 32) C 1 rfl dX2_read_32 ?_
        obtain ⟨c4, c5, c6, c7, c8, c9, c10, c11, c12, c13, c14, c15, hc, h⟩ := b12_of h
        refine g_callV (pc := 33) C (w' := cs_X2 J.2.2.1 a0 c4 c5 c6 c7 c8 c9 c10 c11 ++ cs_X7 J.2.2.1 a1 t_bytes t_held t_end c12 c13 c14 c15) (As := [.ref (a1 0)]) (st := []) (ci := 2) (q0 := 0) rfl rfl (t_X2_readClause (a0 := a0) (a1 := a1) hc) Sub.same kw_627 kw_628 kw_629 kw_92 hy_X2_readClause kw_630 rfl (Nat.le_of_ble_eq_true rfl) (Nat.le_of_ble_eq_true rfl) (Nat.le_of_ble_eq_true rfl) (Nat.le_of_ble_eq_true rfl) (Nat.le_of_ble_eq_true rfl) dX2_read_33 ?_
        refine g_aload_n (pc := 36) C 1 rfl dX2_read_36 ?_
        refine g_bipush (pc := 37) C dX2_read_37 cb_59 ?_
        obtain ⟨c16, c17, c18, c19, hc, h⟩ := b4_of h
        refine g_callV (pc := 39) C (w' := cs_X2 J.2.2.1 a0 c4 c5 c6 c7 c8 c9 c10 c11 ++ cs_X7 J.2.2.1 a1 t_bytes t_held t_end c16 c17 c18 c19) (As := [.int 59]) (st := []) (ci := 7) (q0 := 6) rfl rfl (t_X7_need (a0 := a1) hc) (Sub.gen [6, 7] [0, 1, 2, 3, 4, 5] [0, 1, 2, 3, 4, 5, 6, 7] rfl (by decide) rfl (by decide) (by decide) rfl (by decide)) kw_722 kw_723 kw_724 kw_87 hy_X7_need kw_725 rfl (Nat.le_of_ble_eq_true rfl) (Nat.le_of_ble_eq_true rfl) (Nat.le_of_ble_eq_true rfl) (Nat.le_of_ble_eq_true rfl) (Nat.le_of_ble_eq_true rfl) dX2_read_39 ?_
        refine g_iinc (pc := 42) C (j := 2) [(2, .int (x2 + 1)), (0, .ref (a0 0)), (1, .ref (a1 0))] dX2_read_42 rfl (ii_1 _) (by decide) rfl ?_
        refine g_goto (pc := 45) C (tgt := 17) dX2_read_45 rfl ?_
        refine g_lv [1, 2, 0] rfl ?_
        exact ih (x2 + 1) c4 c5 c6 c7 c8 c9 c10 c11 c16 c17 c18 c19 h
set_option maxRecDepth 100000 in
set_option maxHeartbeats 4000000 in
theorem t_X2_read {J : Jt} {a0 : Nat → Nat} {a1 : Nat → Nat} {p_beds : Int32} {p_letters : Int32} {p_readers : Int32} {p_far : Nat → Int32} {p_drain : Nat → Int32} {p_length : Nat → Int32} {p_words : Nat → Int32} {p_home : Nat → Int32} {t_bytes : Nat → Int32} {t_held : Int32} {t_end : Int32} {t_at : Int32} {t_start : Int32} {t_faultKind : Int32} {t_faultPlace : Int32} {o_p_beds : Int32} {o_p_letters : Int32} {o_p_readers : Int32} {o_p_far : Nat → Int32} {o_p_drain : Nat → Int32} {o_p_length : Nat → Int32} {o_p_words : Nat → Int32} {o_p_home : Nat → Int32} {o_t_at : Int32} {o_t_start : Int32} {o_t_faultKind : Int32} {o_t_faultPlace : Int32} (h : f_X2_read p_beds p_letters p_readers p_far p_drain p_length p_words p_home t_bytes t_end t_at t_start t_faultKind t_faultPlace = some (o_p_beds, o_p_letters, o_p_readers, o_p_far, o_p_drain, o_p_length, o_p_words, o_p_home, o_t_at, o_t_start, o_t_faultKind, o_t_faultPlace)) : Mt J yX2_read cX2_read 3 none rm_X2_read [.ref (a0 0), .ref (a1 0)] (cs_X2 J.2.2.1 a0 p_beds p_letters p_readers p_far p_drain p_length p_words p_home ++ cs_X7 J.2.2.1 a1 t_bytes t_held t_end t_at t_start t_faultKind t_faultPlace) none (cs_X2 J.2.2.1 a0 o_p_beds o_p_letters o_p_readers o_p_far o_p_drain o_p_length o_p_words o_p_home ++ cs_X7 J.2.2.1 a1 t_bytes t_held t_end o_t_at o_t_start o_t_faultKind o_t_faultPlace) := by
  refine Mt_of (own := RX2) (by decide) rfl (Nat.le_of_ble_eq_true rfl) rfl (fun Z C E => ?_)
  unfold f_X2_read at h
  show G J Z 0 0 (cs_X2 J.2.2.1 a0 p_beds p_letters p_readers p_far p_drain p_length p_words p_home ++ cs_X7 J.2.2.1 a1 t_bytes t_held t_end t_at t_start t_faultKind t_faultPlace) 3 [(0, .ref (a0 0)), (1, .ref (a1 0))] 0 []
  refine g_aload_n (pc := 0) C 0 rfl dX2_read_0 ?_
  refine g_iconst (pc := 1) C dX2_read_1 ci_0 ?_
  refine g_put (pc := 2) C (w' := cs_X2 J.2.2.1 a0 0 p_letters p_readers p_far p_drain p_length p_words p_home ++ cs_X7 J.2.2.1 a1 t_bytes t_held t_end t_at t_start t_faultKind t_faultPlace) FOK_X2 0 rfl rfl 0 (by decide) kw_275 rfl rfl rfl (Nat.le_of_ble_eq_true rfl) dX2_read_2 rfl ?_
  refine g_aload_n (pc := 5) C 0 rfl dX2_read_5 ?_
  refine g_iconst (pc := 6) C dX2_read_6 ci_0 ?_
  refine g_put (pc := 7) C (w' := cs_X2 J.2.2.1 a0 0 0 p_readers p_far p_drain p_length p_words p_home ++ cs_X7 J.2.2.1 a1 t_bytes t_held t_end t_at t_start t_faultKind t_faultPlace) FOK_X2 0 rfl rfl 1 (by decide) kw_281 rfl rfl rfl (Nat.le_of_ble_eq_true rfl) dX2_read_7 rfl ?_
  refine g_aload_n (pc := 10) C 0 rfl dX2_read_10 ?_
  refine g_iconst (pc := 11) C dX2_read_11 ci_0 ?_
  refine g_put (pc := 12) C (w' := cs_X2 J.2.2.1 a0 0 0 0 p_far p_drain p_length p_words p_home ++ cs_X7 J.2.2.1 a1 t_bytes t_held t_end t_at t_start t_faultKind t_faultPlace) FOK_X2 0 rfl rfl 2 (by decide) kw_286 rfl rfl rfl (Nat.le_of_ble_eq_true rfl) dX2_read_12 rfl ?_
  refine g_iconst (pc := 15) C dX2_read_15 ci_0 ?_
  refine g_istore_n (pc := 16) C [(2, .int 0), (0, .ref (a0 0)), (1, .ref (a1 0))] dX2_read_16 rfl (by decide) rfl ?_
  refine g_lv [1, 2, 0] rfl ?_
  exact j_X2_read_17 C E    FU 0 0 0 0 p_far p_drain p_length p_words p_home t_at t_start t_faultKind t_faultPlace h
noncomputable def f_X4_begin_85  (p_home : Nat → Int32) : Nat → Int32 → Int32 → Int32 → Int32 → Int32 → Int32 → Int32 → (Nat → Int32) → (Nat → Int32) → (Nat → Int32) → (Nat → Int32) → Option (Int32 × Int32 × Int32 × Int32 × Int32 × Int32 × (Nat → Int32) × (Nat → Int32) × (Nat → Int32) × (Nat → Int32))
  | 0, _, _, _, _, _, _, _, _, _, _, _ => none
  | n + 1, x2, s_year, s_wet, s_lost, s_eaten, s_tied, s_ripeMany, s_gone, s_place, s_heard, s_many => if 6 ≤ x2 then some (s_year, s_wet, s_lost, s_eaten, s_tied, s_ripeMany, s_gone, s_place, s_heard, s_many) else if ixb x2 6 then f_X4_begin_85 p_home n (x2 + 1) s_year s_wet s_lost s_eaten s_tied s_ripeMany s_gone s_place s_heard (upd s_many x2.toNatClampNeg 0) else none
noncomputable def f_X4_begin_53  (p_home : Nat → Int32) : Nat → Int32 → Int32 → Int32 → Int32 → Int32 → Int32 → Int32 → (Nat → Int32) → (Nat → Int32) → (Nat → Int32) → (Nat → Int32) → Option (Int32 × Int32 × Int32 × Int32 × Int32 × Int32 × (Nat → Int32) × (Nat → Int32) × (Nat → Int32) × (Nat → Int32))
  | 0, _, _, _, _, _, _, _, _, _, _, _ => none
  | n + 1, x2, s_year, s_wet, s_lost, s_eaten, s_tied, s_ripeMany, s_gone, s_place, s_heard, s_many => if 5 ≤ x2 then f_X4_begin_85 p_home FU 0 s_year s_wet s_lost s_eaten s_tied s_ripeMany s_gone s_place s_heard s_many else if ixb x2 5 then if ixb x2 5 then if ixb x2 5 then f_X4_begin_53 p_home n (x2 + 1) s_year s_wet s_lost s_eaten s_tied s_ripeMany s_gone (upd s_place x2.toNatClampNeg (p_home x2.toNatClampNeg)) (upd s_heard x2.toNatClampNeg 0) s_many else none else none else none
noncomputable def f_X4_begin_32  (p_home : Nat → Int32) : Nat → Int32 → Int32 → Int32 → Int32 → Int32 → Int32 → Int32 → (Nat → Int32) → (Nat → Int32) → (Nat → Int32) → (Nat → Int32) → Option (Int32 × Int32 × Int32 × Int32 × Int32 × Int32 × (Nat → Int32) × (Nat → Int32) × (Nat → Int32) × (Nat → Int32))
  | 0, _, _, _, _, _, _, _, _, _, _, _ => none
  | n + 1, x2, s_year, s_wet, s_lost, s_eaten, s_tied, s_ripeMany, s_gone, s_place, s_heard, s_many => if 6 ≤ x2 then f_X4_begin_53 p_home FU 0 s_year s_wet s_lost s_eaten s_tied s_ripeMany s_gone s_place s_heard s_many else if ixb x2 6 then f_X4_begin_32 p_home n (x2 + 1) s_year s_wet s_lost s_eaten s_tied s_ripeMany (upd s_gone x2.toNatClampNeg 0) s_place s_heard s_many else none
noncomputable def f_X4_begin (s_year : Int32) (s_wet : Int32) (s_lost : Int32) (s_eaten : Int32) (s_tied : Int32) (s_ripeMany : Int32) (s_gone : Nat → Int32) (s_place : Nat → Int32) (s_heard : Nat → Int32) (s_many : Nat → Int32) (p_home : Nat → Int32) : Option (Int32 × Int32 × Int32 × Int32 × Int32 × Int32 × (Nat → Int32) × (Nat → Int32) × (Nat → Int32) × (Nat → Int32)) := f_X4_begin_32 p_home FU 0 0 0 0 0 0 0 s_gone s_place s_heard s_many
def rm_X4_begin : Room := { frames := 0, cells := 0, slots := 0, locals := 0 }
set_option maxRecDepth 100000 in
set_option maxHeartbeats 4000000 in
theorem j_X4_begin_85 {J : Jt} {Z : Zt} {a0 : Nat → Nat} {a1 : Nat → Nat} {s_lying : Nat → Int32} {s_ripe : Nat → Int32} {p_beds : Int32} {p_letters : Int32} {p_readers : Int32} {p_far : Nat → Int32} {p_drain : Nat → Int32} {p_length : Nat → Int32} {p_words : Nat → Int32} {p_home : Nat → Int32} {o_s_year : Int32} {o_s_wet : Int32} {o_s_lost : Int32} {o_s_eaten : Int32} {o_s_tied : Int32} {o_s_ripeMany : Int32} {o_s_gone : Nat → Int32} {o_s_place : Nat → Int32} {o_s_heard : Nat → Int32} {o_s_many : Nat → Int32} (C : Cx J Z cX4_begin 3 RX4 none rm_X4_begin) (E : Ez J Z 0 0 none (cs_X4 J.2.2.1 a0 o_s_year o_s_wet o_s_lost o_s_eaten o_s_tied o_s_ripeMany o_s_gone o_s_place o_s_heard o_s_many s_lying s_ripe ++ cs_X2 J.2.2.1 a1 p_beds p_letters p_readers p_far p_drain p_length p_words p_home)) : ∀ (n : Nat) (x2 : Int32) (s_year : Int32) (s_wet : Int32) (s_lost : Int32) (s_eaten : Int32) (s_tied : Int32) (s_ripeMany : Int32) (s_gone : Nat → Int32) (s_place : Nat → Int32) (s_heard : Nat → Int32) (s_many : Nat → Int32), f_X4_begin_85 p_home n x2 s_year s_wet s_lost s_eaten s_tied s_ripeMany s_gone s_place s_heard s_many = some (o_s_year, o_s_wet, o_s_lost, o_s_eaten, o_s_tied, o_s_ripeMany, o_s_gone, o_s_place, o_s_heard, o_s_many) → G J Z 0 0 (cs_X4 J.2.2.1 a0 s_year s_wet s_lost s_eaten s_tied s_ripeMany s_gone s_place s_heard s_many s_lying s_ripe ++ cs_X2 J.2.2.1 a1 p_beds p_letters p_readers p_far p_drain p_length p_words p_home) 3 [(0, .ref (a0 0)), (2, .int x2)] 85 [] := by
  intro n
  induction n with
  | zero =>
    intro x2 s_year s_wet s_lost s_eaten s_tied s_ripeMany s_gone s_place s_heard s_many h
    rw [f_X4_begin_85] at h
    cases h
  | succ n ih =>
    intro x2 s_year s_wet s_lost s_eaten s_tied s_ripeMany s_gone s_place s_heard s_many h
    rw [f_X4_begin_85] at h
    refine g_iload_n (pc := 85) C 1 rfl dX4_begin_85 ?_
    refine g_bipush (pc := 86) C dX4_begin_86 cb_6 ?_
    refine g_icmp_ge (pc := 88) C (tgt := 104) dX4_begin_88 rfl h (fun h => ?_) (fun h => ?_)
    · cases h
      exact g_vret C E dX4_begin_104
    · refine g_aload_n (pc := 91) C 0 rfl dX4_begin_91 ?_
      refine g_get (pc := 92) C FOK_X4 0 rfl rfl 9 (by decide) kw_172 rfl dX4_begin_92 ?_
      refine g_iload_n (pc := 95) C 1 rfl dX4_begin_95 ?_
      refine g_iconst (pc := 96) C dX4_begin_96 ci_0 ?_
      obtain ⟨hi, h⟩ := ix_of h
      refine g_iast (pc := 97) C (w' := cs_X4 J.2.2.1 a0 s_year s_wet s_lost s_eaten s_tied s_ripeMany s_gone s_place s_heard (upd s_many x2.toNatClampNeg 0) s_lying s_ripe ++ cs_X2 J.2.2.1 a1 p_beds p_letters p_readers p_far p_drain p_length p_words p_home) 4 rfl hi dX4_begin_97 rfl ?_
      refine g_iinc (pc := 98) C (j := 1) [(2, .int (x2 + 1)), (0, .ref (a0 0))] dX4_begin_98 rfl (ii_1 _) (by decide) rfl ?_
      refine g_goto (pc := 101) C (tgt := 85) dX4_begin_101 rfl ?_
      refine g_lv [1, 0] rfl ?_
      exact ih (x2 + 1) s_year s_wet s_lost s_eaten s_tied s_ripeMany s_gone s_place s_heard (upd s_many x2.toNatClampNeg 0) h
set_option maxRecDepth 100000 in
set_option maxHeartbeats 4000000 in
theorem j_X4_begin_53 {J : Jt} {Z : Zt} {a0 : Nat → Nat} {a1 : Nat → Nat} {s_lying : Nat → Int32} {s_ripe : Nat → Int32} {p_beds : Int32} {p_letters : Int32} {p_readers : Int32} {p_far : Nat → Int32} {p_drain : Nat → Int32} {p_length : Nat → Int32} {p_words : Nat → Int32} {p_home : Nat → Int32} {o_s_year : Int32} {o_s_wet : Int32} {o_s_lost : Int32} {o_s_eaten : Int32} {o_s_tied : Int32} {o_s_ripeMany : Int32} {o_s_gone : Nat → Int32} {o_s_place : Nat → Int32} {o_s_heard : Nat → Int32} {o_s_many : Nat → Int32} (C : Cx J Z cX4_begin 3 RX4 none rm_X4_begin) (E : Ez J Z 0 0 none (cs_X4 J.2.2.1 a0 o_s_year o_s_wet o_s_lost o_s_eaten o_s_tied o_s_ripeMany o_s_gone o_s_place o_s_heard o_s_many s_lying s_ripe ++ cs_X2 J.2.2.1 a1 p_beds p_letters p_readers p_far p_drain p_length p_words p_home)) : ∀ (n : Nat) (x2 : Int32) (s_year : Int32) (s_wet : Int32) (s_lost : Int32) (s_eaten : Int32) (s_tied : Int32) (s_ripeMany : Int32) (s_gone : Nat → Int32) (s_place : Nat → Int32) (s_heard : Nat → Int32) (s_many : Nat → Int32), f_X4_begin_53 p_home n x2 s_year s_wet s_lost s_eaten s_tied s_ripeMany s_gone s_place s_heard s_many = some (o_s_year, o_s_wet, o_s_lost, o_s_eaten, o_s_tied, o_s_ripeMany, o_s_gone, o_s_place, o_s_heard, o_s_many) → G J Z 0 0 (cs_X4 J.2.2.1 a0 s_year s_wet s_lost s_eaten s_tied s_ripeMany s_gone s_place s_heard s_many s_lying s_ripe ++ cs_X2 J.2.2.1 a1 p_beds p_letters p_readers p_far p_drain p_length p_words p_home) 3 [(0, .ref (a0 0)), (1, .ref (a1 0)), (2, .int x2)] 53 [] := by
  intro n
  induction n with
  | zero =>
    intro x2 s_year s_wet s_lost s_eaten s_tied s_ripeMany s_gone s_place s_heard s_many h
    rw [f_X4_begin_53] at h
    cases h
  | succ n ih =>
    intro x2 s_year s_wet s_lost s_eaten s_tied s_ripeMany s_gone s_place s_heard s_many h
    rw [f_X4_begin_53] at h
    refine g_iload_n (pc := 53) C 2 rfl dX4_begin_53 ?_
    refine g_iconst (pc := 54) C dX4_begin_54 ci_5 ?_
    refine g_icmp_ge (pc := 55) C (tgt := 83) dX4_begin_55 rfl h (fun h => ?_) (fun h => ?_)
    · refine g_iconst (pc := 83) C dX4_begin_83 ci_0 ?_
      refine g_istore_n (pc := 84) C [(2, .int 0), (0, .ref (a0 0)), (1, .ref (a1 0))] dX4_begin_84 rfl (by decide) rfl ?_
      refine g_lv [1, 0] rfl ?_
      exact j_X4_begin_85 C E    FU 0 s_year s_wet s_lost s_eaten s_tied s_ripeMany s_gone s_place s_heard s_many h
    · refine g_aload_n (pc := 58) C 0 rfl dX4_begin_58 ?_
      refine g_get (pc := 59) C FOK_X4 0 rfl rfl 7 (by decide) kw_168 rfl dX4_begin_59 ?_
      refine g_iload_n (pc := 62) C 2 rfl dX4_begin_62 ?_
      refine g_aload_n (pc := 63) C 1 rfl dX4_begin_63 ?_
      refine g_get (pc := 64) C FOK_X2 7 rfl rfl 7 (by decide) kw_303 rfl dX4_begin_64 ?_
      refine g_iload_n (pc := 67) C 2 rfl dX4_begin_67 ?_
      obtain ⟨hi, h⟩ := ix_of h
      refine g_iald (pc := 68) C 12 rfl hi dX4_begin_68 ?_
      obtain ⟨hi, h⟩ := ix_of h
      refine g_iast (pc := 69) C (w' := cs_X4 J.2.2.1 a0 s_year s_wet s_lost s_eaten s_tied s_ripeMany s_gone (upd s_place x2.toNatClampNeg (p_home x2.toNatClampNeg)) s_heard s_many s_lying s_ripe ++ cs_X2 J.2.2.1 a1 p_beds p_letters p_readers p_far p_drain p_length p_words p_home) 2 rfl hi dX4_begin_69 rfl ?_
      refine g_aload_n (pc := 70) C 0 rfl dX4_begin_70 ?_
      refine g_get (pc := 71) C FOK_X4 0 rfl rfl 8 (by decide) kw_170 rfl dX4_begin_71 ?_
      refine g_iload_n (pc := 74) C 2 rfl dX4_begin_74 ?_
      refine g_iconst (pc := 75) C dX4_begin_75 ci_0 ?_
      obtain ⟨hi, h⟩ := ix_of h
      refine g_iast (pc := 76) C (w' := cs_X4 J.2.2.1 a0 s_year s_wet s_lost s_eaten s_tied s_ripeMany s_gone (upd s_place x2.toNatClampNeg (p_home x2.toNatClampNeg)) (upd s_heard x2.toNatClampNeg 0) s_many s_lying s_ripe ++ cs_X2 J.2.2.1 a1 p_beds p_letters p_readers p_far p_drain p_length p_words p_home) 3 rfl hi dX4_begin_76 rfl ?_
      refine g_iinc (pc := 77) C (j := 2) [(2, .int (x2 + 1)), (0, .ref (a0 0)), (1, .ref (a1 0))] dX4_begin_77 rfl (ii_1 _) (by decide) rfl ?_
      refine g_goto (pc := 80) C (tgt := 53) dX4_begin_80 rfl ?_
      refine g_lv [1, 2, 0] rfl ?_
      exact ih (x2 + 1) s_year s_wet s_lost s_eaten s_tied s_ripeMany s_gone (upd s_place x2.toNatClampNeg (p_home x2.toNatClampNeg)) (upd s_heard x2.toNatClampNeg 0) s_many h
set_option maxRecDepth 100000 in
set_option maxHeartbeats 4000000 in
theorem j_X4_begin_32 {J : Jt} {Z : Zt} {a0 : Nat → Nat} {a1 : Nat → Nat} {s_lying : Nat → Int32} {s_ripe : Nat → Int32} {p_beds : Int32} {p_letters : Int32} {p_readers : Int32} {p_far : Nat → Int32} {p_drain : Nat → Int32} {p_length : Nat → Int32} {p_words : Nat → Int32} {p_home : Nat → Int32} {o_s_year : Int32} {o_s_wet : Int32} {o_s_lost : Int32} {o_s_eaten : Int32} {o_s_tied : Int32} {o_s_ripeMany : Int32} {o_s_gone : Nat → Int32} {o_s_place : Nat → Int32} {o_s_heard : Nat → Int32} {o_s_many : Nat → Int32} (C : Cx J Z cX4_begin 3 RX4 none rm_X4_begin) (E : Ez J Z 0 0 none (cs_X4 J.2.2.1 a0 o_s_year o_s_wet o_s_lost o_s_eaten o_s_tied o_s_ripeMany o_s_gone o_s_place o_s_heard o_s_many s_lying s_ripe ++ cs_X2 J.2.2.1 a1 p_beds p_letters p_readers p_far p_drain p_length p_words p_home)) : ∀ (n : Nat) (x2 : Int32) (s_year : Int32) (s_wet : Int32) (s_lost : Int32) (s_eaten : Int32) (s_tied : Int32) (s_ripeMany : Int32) (s_gone : Nat → Int32) (s_place : Nat → Int32) (s_heard : Nat → Int32) (s_many : Nat → Int32), f_X4_begin_32 p_home n x2 s_year s_wet s_lost s_eaten s_tied s_ripeMany s_gone s_place s_heard s_many = some (o_s_year, o_s_wet, o_s_lost, o_s_eaten, o_s_tied, o_s_ripeMany, o_s_gone, o_s_place, o_s_heard, o_s_many) → G J Z 0 0 (cs_X4 J.2.2.1 a0 s_year s_wet s_lost s_eaten s_tied s_ripeMany s_gone s_place s_heard s_many s_lying s_ripe ++ cs_X2 J.2.2.1 a1 p_beds p_letters p_readers p_far p_drain p_length p_words p_home) 3 [(0, .ref (a0 0)), (1, .ref (a1 0)), (2, .int x2)] 32 [] := by
  intro n
  induction n with
  | zero =>
    intro x2 s_year s_wet s_lost s_eaten s_tied s_ripeMany s_gone s_place s_heard s_many h
    rw [f_X4_begin_32] at h
    cases h
  | succ n ih =>
    intro x2 s_year s_wet s_lost s_eaten s_tied s_ripeMany s_gone s_place s_heard s_many h
    rw [f_X4_begin_32] at h
    refine g_iload_n (pc := 32) C 2 rfl dX4_begin_32 ?_
    refine g_bipush (pc := 33) C dX4_begin_33 cb_6 ?_
    refine g_icmp_ge (pc := 35) C (tgt := 51) dX4_begin_35 rfl h (fun h => ?_) (fun h => ?_)
    · refine g_iconst (pc := 51) C dX4_begin_51 ci_0 ?_
      refine g_istore_n (pc := 52) C [(2, .int 0), (0, .ref (a0 0)), (1, .ref (a1 0))] dX4_begin_52 rfl (by decide) rfl ?_
      refine g_lv [1, 2, 0] rfl ?_
      exact j_X4_begin_53 C E    FU 0 s_year s_wet s_lost s_eaten s_tied s_ripeMany s_gone s_place s_heard s_many h
    · refine g_aload_n (pc := 38) C 0 rfl dX4_begin_38 ?_
      refine g_get (pc := 39) C FOK_X4 0 rfl rfl 6 (by decide) kw_167 rfl dX4_begin_39 ?_
      refine g_iload_n (pc := 42) C 2 rfl dX4_begin_42 ?_
      refine g_iconst (pc := 43) C dX4_begin_43 ci_0 ?_
      obtain ⟨hi, h⟩ := ix_of h
      refine g_iast (pc := 44) C (w' := cs_X4 J.2.2.1 a0 s_year s_wet s_lost s_eaten s_tied s_ripeMany (upd s_gone x2.toNatClampNeg 0) s_place s_heard s_many s_lying s_ripe ++ cs_X2 J.2.2.1 a1 p_beds p_letters p_readers p_far p_drain p_length p_words p_home) 1 rfl hi dX4_begin_44 rfl ?_
      refine g_iinc (pc := 45) C (j := 2) [(2, .int (x2 + 1)), (0, .ref (a0 0)), (1, .ref (a1 0))] dX4_begin_45 rfl (ii_1 _) (by decide) rfl ?_
      refine g_goto (pc := 48) C (tgt := 32) dX4_begin_48 rfl ?_
      refine g_lv [1, 2, 0] rfl ?_
      exact ih (x2 + 1) s_year s_wet s_lost s_eaten s_tied s_ripeMany (upd s_gone x2.toNatClampNeg 0) s_place s_heard s_many h
set_option maxRecDepth 100000 in
set_option maxHeartbeats 4000000 in
theorem t_X4_begin {J : Jt} {a0 : Nat → Nat} {a1 : Nat → Nat} {s_year : Int32} {s_wet : Int32} {s_lost : Int32} {s_eaten : Int32} {s_tied : Int32} {s_ripeMany : Int32} {s_gone : Nat → Int32} {s_place : Nat → Int32} {s_heard : Nat → Int32} {s_many : Nat → Int32} {s_lying : Nat → Int32} {s_ripe : Nat → Int32} {p_beds : Int32} {p_letters : Int32} {p_readers : Int32} {p_far : Nat → Int32} {p_drain : Nat → Int32} {p_length : Nat → Int32} {p_words : Nat → Int32} {p_home : Nat → Int32} {o_s_year : Int32} {o_s_wet : Int32} {o_s_lost : Int32} {o_s_eaten : Int32} {o_s_tied : Int32} {o_s_ripeMany : Int32} {o_s_gone : Nat → Int32} {o_s_place : Nat → Int32} {o_s_heard : Nat → Int32} {o_s_many : Nat → Int32} (h : f_X4_begin s_year s_wet s_lost s_eaten s_tied s_ripeMany s_gone s_place s_heard s_many p_home = some (o_s_year, o_s_wet, o_s_lost, o_s_eaten, o_s_tied, o_s_ripeMany, o_s_gone, o_s_place, o_s_heard, o_s_many)) : Mt J yX4_begin cX4_begin 3 none rm_X4_begin [.ref (a0 0), .ref (a1 0)] (cs_X4 J.2.2.1 a0 s_year s_wet s_lost s_eaten s_tied s_ripeMany s_gone s_place s_heard s_many s_lying s_ripe ++ cs_X2 J.2.2.1 a1 p_beds p_letters p_readers p_far p_drain p_length p_words p_home) none (cs_X4 J.2.2.1 a0 o_s_year o_s_wet o_s_lost o_s_eaten o_s_tied o_s_ripeMany o_s_gone o_s_place o_s_heard o_s_many s_lying s_ripe ++ cs_X2 J.2.2.1 a1 p_beds p_letters p_readers p_far p_drain p_length p_words p_home) := by
  refine Mt_of (own := RX4) (by decide) rfl (Nat.le_of_ble_eq_true rfl) rfl (fun Z C E => ?_)
  unfold f_X4_begin at h
  show G J Z 0 0 (cs_X4 J.2.2.1 a0 s_year s_wet s_lost s_eaten s_tied s_ripeMany s_gone s_place s_heard s_many s_lying s_ripe ++ cs_X2 J.2.2.1 a1 p_beds p_letters p_readers p_far p_drain p_length p_words p_home) 3 [(0, .ref (a0 0)), (1, .ref (a1 0))] 0 []
  refine g_aload_n (pc := 0) C 0 rfl dX4_begin_0 ?_
  refine g_iconst (pc := 1) C dX4_begin_1 ci_0 ?_
  refine g_put (pc := 2) C (w' := cs_X4 J.2.2.1 a0 0 s_wet s_lost s_eaten s_tied s_ripeMany s_gone s_place s_heard s_many s_lying s_ripe ++ cs_X2 J.2.2.1 a1 p_beds p_letters p_readers p_far p_drain p_length p_words p_home) FOK_X4 0 rfl rfl 0 (by decide) kw_154 rfl rfl rfl (Nat.le_of_ble_eq_true rfl) dX4_begin_2 rfl ?_
  refine g_aload_n (pc := 5) C 0 rfl dX4_begin_5 ?_
  refine g_iconst (pc := 6) C dX4_begin_6 ci_0 ?_
  refine g_put (pc := 7) C (w' := cs_X4 J.2.2.1 a0 0 0 s_lost s_eaten s_tied s_ripeMany s_gone s_place s_heard s_many s_lying s_ripe ++ cs_X2 J.2.2.1 a1 p_beds p_letters p_readers p_far p_drain p_length p_words p_home) FOK_X4 0 rfl rfl 1 (by decide) kw_157 rfl rfl rfl (Nat.le_of_ble_eq_true rfl) dX4_begin_7 rfl ?_
  refine g_aload_n (pc := 10) C 0 rfl dX4_begin_10 ?_
  refine g_iconst (pc := 11) C dX4_begin_11 ci_0 ?_
  refine g_put (pc := 12) C (w' := cs_X4 J.2.2.1 a0 0 0 0 s_eaten s_tied s_ripeMany s_gone s_place s_heard s_many s_lying s_ripe ++ cs_X2 J.2.2.1 a1 p_beds p_letters p_readers p_far p_drain p_length p_words p_home) FOK_X4 0 rfl rfl 2 (by decide) kw_159 rfl rfl rfl (Nat.le_of_ble_eq_true rfl) dX4_begin_12 rfl ?_
  refine g_aload_n (pc := 15) C 0 rfl dX4_begin_15 ?_
  refine g_iconst (pc := 16) C dX4_begin_16 ci_0 ?_
  refine g_put (pc := 17) C (w' := cs_X4 J.2.2.1 a0 0 0 0 0 s_tied s_ripeMany s_gone s_place s_heard s_many s_lying s_ripe ++ cs_X2 J.2.2.1 a1 p_beds p_letters p_readers p_far p_drain p_length p_words p_home) FOK_X4 0 rfl rfl 3 (by decide) kw_161 rfl rfl rfl (Nat.le_of_ble_eq_true rfl) dX4_begin_17 rfl ?_
  refine g_aload_n (pc := 20) C 0 rfl dX4_begin_20 ?_
  refine g_iconst (pc := 21) C dX4_begin_21 ci_0 ?_
  refine g_put (pc := 22) C (w' := cs_X4 J.2.2.1 a0 0 0 0 0 0 s_ripeMany s_gone s_place s_heard s_many s_lying s_ripe ++ cs_X2 J.2.2.1 a1 p_beds p_letters p_readers p_far p_drain p_length p_words p_home) FOK_X4 0 rfl rfl 4 (by decide) kw_163 rfl rfl rfl (Nat.le_of_ble_eq_true rfl) dX4_begin_22 rfl ?_
  refine g_aload_n (pc := 25) C 0 rfl dX4_begin_25 ?_
  refine g_iconst (pc := 26) C dX4_begin_26 ci_0 ?_
  refine g_put (pc := 27) C (w' := cs_X4 J.2.2.1 a0 0 0 0 0 0 0 s_gone s_place s_heard s_many s_lying s_ripe ++ cs_X2 J.2.2.1 a1 p_beds p_letters p_readers p_far p_drain p_length p_words p_home) FOK_X4 0 rfl rfl 5 (by decide) kw_165 rfl rfl rfl (Nat.le_of_ble_eq_true rfl) dX4_begin_27 rfl ?_
  refine g_iconst (pc := 30) C dX4_begin_30 ci_0 ?_
  refine g_istore_n (pc := 31) C [(2, .int 0), (0, .ref (a0 0)), (1, .ref (a1 0))] dX4_begin_31 rfl (by decide) rfl ?_
  refine g_lv [1, 2, 0] rfl ?_
  exact j_X4_begin_32 C E    FU 0 0 0 0 0 0 0 s_gone s_place s_heard s_many h
noncomputable def f_X4_copy (s_year : Int32) (s_wet : Int32) (s_lost : Int32) (s_eaten : Int32) (s_tied : Int32) (s_ripeMany : Int32) (s_gone : Nat → Int32) (s_place : Nat → Int32) (s_heard : Nat → Int32) (s_many : Nat → Int32) (s_lying : Nat → Int32) (s_ripe : Nat → Int32) (s2_year : Int32) (s2_wet : Int32) (s2_lost : Int32) (s2_eaten : Int32) (s2_tied : Int32) (s2_ripeMany : Int32) (s2_gone : Nat → Int32) (s2_place : Nat → Int32) (s2_heard : Nat → Int32) (s2_many : Nat → Int32) (s2_lying : Nat → Int32) (s2_ripe : Nat → Int32) : Option (Int32 × Int32 × Int32 × Int32 × Int32 × Int32 × (Nat → Int32) × (Nat → Int32) × (Nat → Int32) × (Nat → Int32) × (Nat → Int32) × (Nat → Int32)) := if cpb 0 0 6 6 6 then if cpb 0 0 5 5 5 then if cpb 0 0 5 5 5 then if cpb 0 0 6 6 6 then if cpb 0 0 72 72 72 then if cpb 0 0 60 60 60 then some (s2_year, s2_wet, s2_lost, s2_eaten, s2_tied, s2_ripeMany, va_cpy s2_gone s_gone (0 : Int32).toNatClampNeg (0 : Int32).toNatClampNeg (6 : Int32).toNatClampNeg, va_cpy s2_place s_place (0 : Int32).toNatClampNeg (0 : Int32).toNatClampNeg (5 : Int32).toNatClampNeg, va_cpy s2_heard s_heard (0 : Int32).toNatClampNeg (0 : Int32).toNatClampNeg (5 : Int32).toNatClampNeg, va_cpy s2_many s_many (0 : Int32).toNatClampNeg (0 : Int32).toNatClampNeg (6 : Int32).toNatClampNeg, va_cpy s2_lying s_lying (0 : Int32).toNatClampNeg (0 : Int32).toNatClampNeg (72 : Int32).toNatClampNeg, va_cpy s2_ripe s_ripe (0 : Int32).toNatClampNeg (0 : Int32).toNatClampNeg (60 : Int32).toNatClampNeg) else none else none else none else none else none else none
def rm_X4_copy : Room := { frames := 1, cells := 0, slots := 0, locals := 80 }
set_option maxRecDepth 100000 in
set_option maxHeartbeats 4000000 in
theorem t_X4_copy {J : Jt} {a0 : Nat → Nat} {a1 : Nat → Nat} {s_year : Int32} {s_wet : Int32} {s_lost : Int32} {s_eaten : Int32} {s_tied : Int32} {s_ripeMany : Int32} {s_gone : Nat → Int32} {s_place : Nat → Int32} {s_heard : Nat → Int32} {s_many : Nat → Int32} {s_lying : Nat → Int32} {s_ripe : Nat → Int32} {s2_year : Int32} {s2_wet : Int32} {s2_lost : Int32} {s2_eaten : Int32} {s2_tied : Int32} {s2_ripeMany : Int32} {s2_gone : Nat → Int32} {s2_place : Nat → Int32} {s2_heard : Nat → Int32} {s2_many : Nat → Int32} {s2_lying : Nat → Int32} {s2_ripe : Nat → Int32} {o_s_year : Int32} {o_s_wet : Int32} {o_s_lost : Int32} {o_s_eaten : Int32} {o_s_tied : Int32} {o_s_ripeMany : Int32} {o_s_gone : Nat → Int32} {o_s_place : Nat → Int32} {o_s_heard : Nat → Int32} {o_s_many : Nat → Int32} {o_s_lying : Nat → Int32} {o_s_ripe : Nat → Int32} (h : f_X4_copy s_year s_wet s_lost s_eaten s_tied s_ripeMany s_gone s_place s_heard s_many s_lying s_ripe s2_year s2_wet s2_lost s2_eaten s2_tied s2_ripeMany s2_gone s2_place s2_heard s2_many s2_lying s2_ripe = some (o_s_year, o_s_wet, o_s_lost, o_s_eaten, o_s_tied, o_s_ripeMany, o_s_gone, o_s_place, o_s_heard, o_s_many, o_s_lying, o_s_ripe)) : Mt J yX4_copy cX4_copy 2 none rm_X4_copy [.ref (a0 0), .ref (a1 0)] (cs_X4 J.2.2.1 a0 s_year s_wet s_lost s_eaten s_tied s_ripeMany s_gone s_place s_heard s_many s_lying s_ripe ++ cs_X4 J.2.2.1 a1 s2_year s2_wet s2_lost s2_eaten s2_tied s2_ripeMany s2_gone s2_place s2_heard s2_many s2_lying s2_ripe) none (cs_X4 J.2.2.1 a0 o_s_year o_s_wet o_s_lost o_s_eaten o_s_tied o_s_ripeMany o_s_gone o_s_place o_s_heard o_s_many o_s_lying o_s_ripe ++ cs_X4 J.2.2.1 a1 s2_year s2_wet s2_lost s2_eaten s2_tied s2_ripeMany s2_gone s2_place s2_heard s2_many s2_lying s2_ripe) := by
  refine Mt_of (own := RX4) (by decide) rfl (Nat.le_of_ble_eq_true rfl) rfl (fun Z C E => ?_)
  unfold f_X4_copy at h
  show G J Z 0 0 (cs_X4 J.2.2.1 a0 s_year s_wet s_lost s_eaten s_tied s_ripeMany s_gone s_place s_heard s_many s_lying s_ripe ++ cs_X4 J.2.2.1 a1 s2_year s2_wet s2_lost s2_eaten s2_tied s2_ripeMany s2_gone s2_place s2_heard s2_many s2_lying s2_ripe) 2 [(0, .ref (a0 0)), (1, .ref (a1 0))] 0 []
  refine g_aload_n (pc := 0) C 0 rfl dX4_copy_0 ?_
  refine g_aload_n (pc := 1) C 1 rfl dX4_copy_1 ?_
  refine g_get (pc := 2) C FOK_X4 7 rfl rfl 0 (by decide) kw_154 rfl dX4_copy_2 ?_
  refine g_put (pc := 5) C (w' := cs_X4 J.2.2.1 a0 s2_year s_wet s_lost s_eaten s_tied s_ripeMany s_gone s_place s_heard s_many s_lying s_ripe ++ cs_X4 J.2.2.1 a1 s2_year s2_wet s2_lost s2_eaten s2_tied s2_ripeMany s2_gone s2_place s2_heard s2_many s2_lying s2_ripe) FOK_X4 0 rfl rfl 0 (by decide) kw_154 rfl rfl rfl (Nat.le_of_ble_eq_true rfl) dX4_copy_5 rfl ?_
  refine g_aload_n (pc := 8) C 0 rfl dX4_copy_8 ?_
  refine g_aload_n (pc := 9) C 1 rfl dX4_copy_9 ?_
  refine g_get (pc := 10) C FOK_X4 7 rfl rfl 1 (by decide) kw_157 rfl dX4_copy_10 ?_
  refine g_put (pc := 13) C (w' := cs_X4 J.2.2.1 a0 s2_year s2_wet s_lost s_eaten s_tied s_ripeMany s_gone s_place s_heard s_many s_lying s_ripe ++ cs_X4 J.2.2.1 a1 s2_year s2_wet s2_lost s2_eaten s2_tied s2_ripeMany s2_gone s2_place s2_heard s2_many s2_lying s2_ripe) FOK_X4 0 rfl rfl 1 (by decide) kw_157 rfl rfl rfl (Nat.le_of_ble_eq_true rfl) dX4_copy_13 rfl ?_
  refine g_aload_n (pc := 16) C 0 rfl dX4_copy_16 ?_
  refine g_aload_n (pc := 17) C 1 rfl dX4_copy_17 ?_
  refine g_get (pc := 18) C FOK_X4 7 rfl rfl 2 (by decide) kw_159 rfl dX4_copy_18 ?_
  refine g_put (pc := 21) C (w' := cs_X4 J.2.2.1 a0 s2_year s2_wet s2_lost s_eaten s_tied s_ripeMany s_gone s_place s_heard s_many s_lying s_ripe ++ cs_X4 J.2.2.1 a1 s2_year s2_wet s2_lost s2_eaten s2_tied s2_ripeMany s2_gone s2_place s2_heard s2_many s2_lying s2_ripe) FOK_X4 0 rfl rfl 2 (by decide) kw_159 rfl rfl rfl (Nat.le_of_ble_eq_true rfl) dX4_copy_21 rfl ?_
  refine g_aload_n (pc := 24) C 0 rfl dX4_copy_24 ?_
  refine g_aload_n (pc := 25) C 1 rfl dX4_copy_25 ?_
  refine g_get (pc := 26) C FOK_X4 7 rfl rfl 3 (by decide) kw_161 rfl dX4_copy_26 ?_
  refine g_put (pc := 29) C (w' := cs_X4 J.2.2.1 a0 s2_year s2_wet s2_lost s2_eaten s_tied s_ripeMany s_gone s_place s_heard s_many s_lying s_ripe ++ cs_X4 J.2.2.1 a1 s2_year s2_wet s2_lost s2_eaten s2_tied s2_ripeMany s2_gone s2_place s2_heard s2_many s2_lying s2_ripe) FOK_X4 0 rfl rfl 3 (by decide) kw_161 rfl rfl rfl (Nat.le_of_ble_eq_true rfl) dX4_copy_29 rfl ?_
  refine g_aload_n (pc := 32) C 0 rfl dX4_copy_32 ?_
  refine g_aload_n (pc := 33) C 1 rfl dX4_copy_33 ?_
  refine g_get (pc := 34) C FOK_X4 7 rfl rfl 4 (by decide) kw_163 rfl dX4_copy_34 ?_
  refine g_put (pc := 37) C (w' := cs_X4 J.2.2.1 a0 s2_year s2_wet s2_lost s2_eaten s2_tied s_ripeMany s_gone s_place s_heard s_many s_lying s_ripe ++ cs_X4 J.2.2.1 a1 s2_year s2_wet s2_lost s2_eaten s2_tied s2_ripeMany s2_gone s2_place s2_heard s2_many s2_lying s2_ripe) FOK_X4 0 rfl rfl 4 (by decide) kw_163 rfl rfl rfl (Nat.le_of_ble_eq_true rfl) dX4_copy_37 rfl ?_
  refine g_aload_n (pc := 40) C 0 rfl dX4_copy_40 ?_
  refine g_aload_n (pc := 41) C 1 rfl dX4_copy_41 ?_
  refine g_get (pc := 42) C FOK_X4 7 rfl rfl 5 (by decide) kw_165 rfl dX4_copy_42 ?_
  refine g_put (pc := 45) C (w' := cs_X4 J.2.2.1 a0 s2_year s2_wet s2_lost s2_eaten s2_tied s2_ripeMany s_gone s_place s_heard s_many s_lying s_ripe ++ cs_X4 J.2.2.1 a1 s2_year s2_wet s2_lost s2_eaten s2_tied s2_ripeMany s2_gone s2_place s2_heard s2_many s2_lying s2_ripe) FOK_X4 0 rfl rfl 5 (by decide) kw_165 rfl rfl rfl (Nat.le_of_ble_eq_true rfl) dX4_copy_45 rfl ?_
  refine g_aload_n (pc := 48) C 1 rfl dX4_copy_48 ?_
  refine g_get (pc := 49) C FOK_X4 7 rfl rfl 6 (by decide) kw_167 rfl dX4_copy_49 ?_
  refine g_iconst (pc := 52) C dX4_copy_52 ci_0 ?_
  refine g_aload_n (pc := 53) C 0 rfl dX4_copy_53 ?_
  refine g_get (pc := 54) C FOK_X4 0 rfl rfl 6 (by decide) kw_167 rfl dX4_copy_54 ?_
  refine g_iconst (pc := 57) C dX4_copy_57 ci_0 ?_
  refine g_bipush (pc := 58) C dX4_copy_58 cb_6 ?_
  obtain ⟨hi, h⟩ := cp_of h
  refine g_copyi (pc := 60) C (w' := cs_X4 J.2.2.1 a0 s2_year s2_wet s2_lost s2_eaten s2_tied s2_ripeMany (va_cpy s2_gone s_gone (0 : Int32).toNatClampNeg (0 : Int32).toNatClampNeg (6 : Int32).toNatClampNeg) s_place s_heard s_many s_lying s_ripe ++ cs_X4 J.2.2.1 a1 s2_year s2_wet s2_lost s2_eaten s2_tied s2_ripeMany s2_gone s2_place s2_heard s2_many s2_lying s2_ripe) kw_449 kw_451 kw_450 kw_106 8 1 rfl rfl hi (Nat.le_of_ble_eq_true rfl) (Nat.le_of_ble_eq_true rfl) dX4_copy_60 rfl ?_
  refine g_aload_n (pc := 63) C 1 rfl dX4_copy_63 ?_
  refine g_get (pc := 64) C FOK_X4 7 rfl rfl 7 (by decide) kw_168 rfl dX4_copy_64 ?_
  refine g_iconst (pc := 67) C dX4_copy_67 ci_0 ?_
  refine g_aload_n (pc := 68) C 0 rfl dX4_copy_68 ?_
  refine g_get (pc := 69) C FOK_X4 0 rfl rfl 7 (by decide) kw_168 rfl dX4_copy_69 ?_
  refine g_iconst (pc := 72) C dX4_copy_72 ci_0 ?_
  refine g_iconst (pc := 73) C dX4_copy_73 ci_5 ?_
  obtain ⟨hi, h⟩ := cp_of h
  refine g_copyi (pc := 74) C (w' := cs_X4 J.2.2.1 a0 s2_year s2_wet s2_lost s2_eaten s2_tied s2_ripeMany (va_cpy s2_gone s_gone (0 : Int32).toNatClampNeg (0 : Int32).toNatClampNeg (6 : Int32).toNatClampNeg) (va_cpy s2_place s_place (0 : Int32).toNatClampNeg (0 : Int32).toNatClampNeg (5 : Int32).toNatClampNeg) s_heard s_many s_lying s_ripe ++ cs_X4 J.2.2.1 a1 s2_year s2_wet s2_lost s2_eaten s2_tied s2_ripeMany s2_gone s2_place s2_heard s2_many s2_lying s2_ripe) kw_449 kw_451 kw_450 kw_106 9 2 rfl rfl hi (Nat.le_of_ble_eq_true rfl) (Nat.le_of_ble_eq_true rfl) dX4_copy_74 rfl ?_
  refine g_aload_n (pc := 77) C 1 rfl dX4_copy_77 ?_
  refine g_get (pc := 78) C FOK_X4 7 rfl rfl 8 (by decide) kw_170 rfl dX4_copy_78 ?_
  refine g_iconst (pc := 81) C dX4_copy_81 ci_0 ?_
  refine g_aload_n (pc := 82) C 0 rfl dX4_copy_82 ?_
  refine g_get (pc := 83) C FOK_X4 0 rfl rfl 8 (by decide) kw_170 rfl dX4_copy_83 ?_
  refine g_iconst (pc := 86) C dX4_copy_86 ci_0 ?_
  refine g_iconst (pc := 87) C dX4_copy_87 ci_5 ?_
  obtain ⟨hi, h⟩ := cp_of h
  refine g_copyi (pc := 88) C (w' := cs_X4 J.2.2.1 a0 s2_year s2_wet s2_lost s2_eaten s2_tied s2_ripeMany (va_cpy s2_gone s_gone (0 : Int32).toNatClampNeg (0 : Int32).toNatClampNeg (6 : Int32).toNatClampNeg) (va_cpy s2_place s_place (0 : Int32).toNatClampNeg (0 : Int32).toNatClampNeg (5 : Int32).toNatClampNeg) (va_cpy s2_heard s_heard (0 : Int32).toNatClampNeg (0 : Int32).toNatClampNeg (5 : Int32).toNatClampNeg) s_many s_lying s_ripe ++ cs_X4 J.2.2.1 a1 s2_year s2_wet s2_lost s2_eaten s2_tied s2_ripeMany s2_gone s2_place s2_heard s2_many s2_lying s2_ripe) kw_449 kw_451 kw_450 kw_106 10 3 rfl rfl hi (Nat.le_of_ble_eq_true rfl) (Nat.le_of_ble_eq_true rfl) dX4_copy_88 rfl ?_
  refine g_aload_n (pc := 91) C 1 rfl dX4_copy_91 ?_
  refine g_get (pc := 92) C FOK_X4 7 rfl rfl 9 (by decide) kw_172 rfl dX4_copy_92 ?_
  refine g_iconst (pc := 95) C dX4_copy_95 ci_0 ?_
  refine g_aload_n (pc := 96) C 0 rfl dX4_copy_96 ?_
  refine g_get (pc := 97) C FOK_X4 0 rfl rfl 9 (by decide) kw_172 rfl dX4_copy_97 ?_
  refine g_iconst (pc := 100) C dX4_copy_100 ci_0 ?_
  refine g_bipush (pc := 101) C dX4_copy_101 cb_6 ?_
  obtain ⟨hi, h⟩ := cp_of h
  refine g_copyi (pc := 103) C (w' := cs_X4 J.2.2.1 a0 s2_year s2_wet s2_lost s2_eaten s2_tied s2_ripeMany (va_cpy s2_gone s_gone (0 : Int32).toNatClampNeg (0 : Int32).toNatClampNeg (6 : Int32).toNatClampNeg) (va_cpy s2_place s_place (0 : Int32).toNatClampNeg (0 : Int32).toNatClampNeg (5 : Int32).toNatClampNeg) (va_cpy s2_heard s_heard (0 : Int32).toNatClampNeg (0 : Int32).toNatClampNeg (5 : Int32).toNatClampNeg) (va_cpy s2_many s_many (0 : Int32).toNatClampNeg (0 : Int32).toNatClampNeg (6 : Int32).toNatClampNeg) s_lying s_ripe ++ cs_X4 J.2.2.1 a1 s2_year s2_wet s2_lost s2_eaten s2_tied s2_ripeMany s2_gone s2_place s2_heard s2_many s2_lying s2_ripe) kw_449 kw_451 kw_450 kw_106 11 4 rfl rfl hi (Nat.le_of_ble_eq_true rfl) (Nat.le_of_ble_eq_true rfl) dX4_copy_103 rfl ?_
  refine g_aload_n (pc := 106) C 1 rfl dX4_copy_106 ?_
  refine g_get (pc := 107) C FOK_X4 7 rfl rfl 10 (by decide) kw_174 rfl dX4_copy_107 ?_
  refine g_iconst (pc := 110) C dX4_copy_110 ci_0 ?_
  refine g_aload_n (pc := 111) C 0 rfl dX4_copy_111 ?_
  refine g_get (pc := 112) C FOK_X4 0 rfl rfl 10 (by decide) kw_174 rfl dX4_copy_112 ?_
  refine g_iconst (pc := 115) C dX4_copy_115 ci_0 ?_
  refine g_bipush (pc := 116) C dX4_copy_116 cb_72 ?_
  obtain ⟨hi, h⟩ := cp_of h
  refine g_copyi (pc := 118) C (w' := cs_X4 J.2.2.1 a0 s2_year s2_wet s2_lost s2_eaten s2_tied s2_ripeMany (va_cpy s2_gone s_gone (0 : Int32).toNatClampNeg (0 : Int32).toNatClampNeg (6 : Int32).toNatClampNeg) (va_cpy s2_place s_place (0 : Int32).toNatClampNeg (0 : Int32).toNatClampNeg (5 : Int32).toNatClampNeg) (va_cpy s2_heard s_heard (0 : Int32).toNatClampNeg (0 : Int32).toNatClampNeg (5 : Int32).toNatClampNeg) (va_cpy s2_many s_many (0 : Int32).toNatClampNeg (0 : Int32).toNatClampNeg (6 : Int32).toNatClampNeg) (va_cpy s2_lying s_lying (0 : Int32).toNatClampNeg (0 : Int32).toNatClampNeg (72 : Int32).toNatClampNeg) s_ripe ++ cs_X4 J.2.2.1 a1 s2_year s2_wet s2_lost s2_eaten s2_tied s2_ripeMany s2_gone s2_place s2_heard s2_many s2_lying s2_ripe) kw_449 kw_451 kw_450 kw_106 12 5 rfl rfl hi (Nat.le_of_ble_eq_true rfl) (Nat.le_of_ble_eq_true rfl) dX4_copy_118 rfl ?_
  refine g_aload_n (pc := 121) C 1 rfl dX4_copy_121 ?_
  refine g_get (pc := 122) C FOK_X4 7 rfl rfl 11 (by decide) kw_175 rfl dX4_copy_122 ?_
  refine g_iconst (pc := 125) C dX4_copy_125 ci_0 ?_
  refine g_aload_n (pc := 126) C 0 rfl dX4_copy_126 ?_
  refine g_get (pc := 127) C FOK_X4 0 rfl rfl 11 (by decide) kw_175 rfl dX4_copy_127 ?_
  refine g_iconst (pc := 130) C dX4_copy_130 ci_0 ?_
  refine g_bipush (pc := 131) C dX4_copy_131 cb_60 ?_
  obtain ⟨hi, h⟩ := cp_of h
  refine g_copyi (pc := 133) C (w' := cs_X4 J.2.2.1 a0 s2_year s2_wet s2_lost s2_eaten s2_tied s2_ripeMany (va_cpy s2_gone s_gone (0 : Int32).toNatClampNeg (0 : Int32).toNatClampNeg (6 : Int32).toNatClampNeg) (va_cpy s2_place s_place (0 : Int32).toNatClampNeg (0 : Int32).toNatClampNeg (5 : Int32).toNatClampNeg) (va_cpy s2_heard s_heard (0 : Int32).toNatClampNeg (0 : Int32).toNatClampNeg (5 : Int32).toNatClampNeg) (va_cpy s2_many s_many (0 : Int32).toNatClampNeg (0 : Int32).toNatClampNeg (6 : Int32).toNatClampNeg) (va_cpy s2_lying s_lying (0 : Int32).toNatClampNeg (0 : Int32).toNatClampNeg (72 : Int32).toNatClampNeg) (va_cpy s2_ripe s_ripe (0 : Int32).toNatClampNeg (0 : Int32).toNatClampNeg (60 : Int32).toNatClampNeg) ++ cs_X4 J.2.2.1 a1 s2_year s2_wet s2_lost s2_eaten s2_tied s2_ripeMany s2_gone s2_place s2_heard s2_many s2_lying s2_ripe) kw_449 kw_451 kw_450 kw_106 13 6 rfl rfl hi (Nat.le_of_ble_eq_true rfl) (Nat.le_of_ble_eq_true rfl) dX4_copy_133 rfl ?_
  cases h
  exact g_vret C E dX4_copy_136
noncomputable def f_X9_has  (n1 : Int32) (n2 : Int32) : Option (Int32) := if ((n1 >>> (n2 &&& 31)) &&& 1) = 1 then some 1 else some 0
def rm_X9_has : Room := { frames := 0, cells := 0, slots := 0, locals := 0 }
set_option maxRecDepth 100000 in
set_option maxHeartbeats 4000000 in
theorem t_X9_has {J : Jt}  {n1 : Int32} {n2 : Int32} {r : Int32} (h : f_X9_has n1 n2 = some r) : Mt J yX9_has cX9_has 2 (some .boolean) rm_X9_has [.int n1, .int n2] ([]) (some (.int r)) ([]) := by
  refine Mt_of (own := RX9) (by decide) rfl (Nat.le_of_ble_eq_true rfl) rfl (fun Z C E => ?_)
  unfold f_X9_has at h
  show G J Z 0 0 ([]) 2 [(0, .int n1), (1, .int n2)] 0 []
  refine g_iload_n (pc := 0) C 0 rfl dX9_has_0 ?_
  refine g_iload_n (pc := 1) C 1 rfl dX9_has_1 ?_
  refine g_ishr (pc := 2) C dX9_has_2 ?_
  refine g_iconst (pc := 3) C dX9_has_3 ci_1 ?_
  refine g_iand (pc := 4) C dX9_has_4 ?_
  refine g_iconst (pc := 5) C dX9_has_5 ci_1 ?_
  refine g_icmp_ne (pc := 6) C (tgt := 13) dX9_has_6 rfl h (fun h => ?_) (fun h => ?_)
  · refine g_iconst (pc := 13) C dX9_has_13 ci_0 ?_
    cases h
    exact g_zret C rfl E dX9_has_14
  · refine g_iconst (pc := 9) C dX9_has_9 ci_1 ?_
    refine g_goto (pc := 10) C (tgt := 14) dX9_has_10 rfl ?_
    cases h
    exact g_zret C rfl E dX9_has_14
noncomputable def f_X4_isTied (s_tied : Int32) (n1 : Int32) : Option (Int32) := b1 (f_X9_has s_tied n1) (fun v1 => if zok v1 then some v1 else none)
def rm_X4_isTied : Room := { frames := 1, cells := 0, slots := 0, locals := 21 }
set_option maxRecDepth 100000 in
set_option maxHeartbeats 4000000 in
theorem t_X4_isTied {J : Jt} {a0 : Nat → Nat} {s_year : Int32} {s_wet : Int32} {s_lost : Int32} {s_eaten : Int32} {s_tied : Int32} {s_ripeMany : Int32} {s_gone : Nat → Int32} {s_place : Nat → Int32} {s_heard : Nat → Int32} {s_many : Nat → Int32} {s_lying : Nat → Int32} {s_ripe : Nat → Int32} {n1 : Int32} {r : Int32} (h : f_X4_isTied s_tied n1 = some r) : Mt J yX4_isTied cX4_isTied 2 (some .boolean) rm_X4_isTied [.ref (a0 0), .int n1] (cs_X4 J.2.2.1 a0 s_year s_wet s_lost s_eaten s_tied s_ripeMany s_gone s_place s_heard s_many s_lying s_ripe) (some (.int r)) (cs_X4 J.2.2.1 a0 s_year s_wet s_lost s_eaten s_tied s_ripeMany s_gone s_place s_heard s_many s_lying s_ripe) := by
  refine Mt_of (own := RX4) (by decide) rfl (Nat.le_of_ble_eq_true rfl) rfl (fun Z C E => ?_)
  unfold f_X4_isTied at h
  show G J Z 0 0 (cs_X4 J.2.2.1 a0 s_year s_wet s_lost s_eaten s_tied s_ripeMany s_gone s_place s_heard s_many s_lying s_ripe) 2 [(0, .ref (a0 0)), (1, .int n1)] 0 []
  refine g_aload_n (pc := 0) C 0 rfl dX4_isTied_0 ?_
  refine g_get (pc := 1) C FOK_X4 0 rfl rfl 4 (by decide) kw_163 rfl dX4_isTied_1 ?_
  refine g_iload_n (pc := 4) C 1 rfl dX4_isTied_4 ?_
  obtain ⟨v1, hc, h⟩ := b1_of h
  refine g_callSN (pc := 5) C (w' := cs_X4 J.2.2.1 a0 s_year s_wet s_lost s_eaten s_tied s_ripeMany s_gone s_place s_heard s_many s_lying s_ripe) (As := [.int s_tied, .int n1]) (st := []) (t_X9_has hc) Sub.nil (by decide) kw_483 kw_86 hn_X9_has kw_484 rfl (Nat.le_of_ble_eq_true rfl) (Nat.le_of_ble_eq_true rfl) (Nat.le_of_ble_eq_true rfl) (Nat.le_of_ble_eq_true rfl) (Nat.le_of_ble_eq_true rfl) dX4_isTied_5 ?_
  obtain ⟨hz, h⟩ := zok_of h
  cases h
  exact g_zret C hz E dX4_isTied_8
noncomputable def f_X4_leftOfAll_4  (s_gone : Nat → Int32) (p_letters : Int32) (p_length : Nat → Int32) : Nat → Int32 → Int32 → Option (Int32)
  | 0, _, _ => none
  | n + 1, x2, x3 => if p_letters ≤ x3 then some x2 else b1 (f_X4_leftOf s_gone p_length x3) (fun v1 => f_X4_leftOfAll_4 s_gone p_letters p_length n (x2 + v1) (x3 + 1))
noncomputable def f_X4_leftOfAll (s_gone : Nat → Int32) (p_letters : Int32) (p_length : Nat → Int32) : Option (Int32) := f_X4_leftOfAll_4 s_gone p_letters p_length FU 0 0
def rm_X4_leftOfAll : Room := { frames := 1, cells := 0, slots := 0, locals := 22 }
set_option maxRecDepth 100000 in
set_option maxHeartbeats 4000000 in
theorem j_X4_leftOfAll_4 {J : Jt} {Z : Zt} {a0 : Nat → Nat} {a1 : Nat → Nat} {s_year : Int32} {s_wet : Int32} {s_lost : Int32} {s_eaten : Int32} {s_tied : Int32} {s_ripeMany : Int32} {s_gone : Nat → Int32} {s_place : Nat → Int32} {s_heard : Nat → Int32} {s_many : Nat → Int32} {s_lying : Nat → Int32} {s_ripe : Nat → Int32} {p_beds : Int32} {p_letters : Int32} {p_readers : Int32} {p_far : Nat → Int32} {p_drain : Nat → Int32} {p_length : Nat → Int32} {p_words : Nat → Int32} {p_home : Nat → Int32} {r : Int32} (C : Cx J Z cX4_leftOfAll 4 RX4 (some .int) rm_X4_leftOfAll) (E : Ez J Z 0 0 (some (.int r)) (cs_X4 J.2.2.1 a0 s_year s_wet s_lost s_eaten s_tied s_ripeMany s_gone s_place s_heard s_many s_lying s_ripe ++ cs_X2 J.2.2.1 a1 p_beds p_letters p_readers p_far p_drain p_length p_words p_home)) : ∀ (n : Nat) (x2 : Int32) (x3 : Int32), f_X4_leftOfAll_4 s_gone p_letters p_length n x2 x3 = some r → G J Z 0 0 (cs_X4 J.2.2.1 a0 s_year s_wet s_lost s_eaten s_tied s_ripeMany s_gone s_place s_heard s_many s_lying s_ripe ++ cs_X2 J.2.2.1 a1 p_beds p_letters p_readers p_far p_drain p_length p_words p_home) 4 [(0, .ref (a0 0)), (1, .ref (a1 0)), (2, .int x2), (3, .int x3)] 4 [] := by
  intro n
  induction n with
  | zero =>
    intro x2 x3 h
    rw [f_X4_leftOfAll_4] at h
    cases h
  | succ n ih =>
    intro x2 x3 h
    rw [f_X4_leftOfAll_4] at h
    refine g_iload_n (pc := 4) C 3 rfl dX4_leftOfAll_4 ?_
    refine g_aload_n (pc := 5) C 1 rfl dX4_leftOfAll_5 ?_
    refine g_get (pc := 6) C FOK_X2 7 rfl rfl 1 (by decide) kw_285 rfl dX4_leftOfAll_6 ?_
    refine g_icmp_ge (pc := 9) C (tgt := 27) dX4_leftOfAll_9 rfl h (fun h => ?_) (fun h => ?_)
    · refine g_iload_n (pc := 27) C 2 rfl dX4_leftOfAll_27 ?_
      cases h
      exact g_iret C E dX4_leftOfAll_28
    · refine g_iload_n (pc := 12) C 2 rfl dX4_leftOfAll_12 ?_
      refine g_aload_n (pc := 13) C 0 rfl dX4_leftOfAll_13 ?_
      refine g_aload_n (pc := 14) C 1 rfl dX4_leftOfAll_14 ?_
      refine g_iload_n (pc := 15) C 3 rfl dX4_leftOfAll_15 ?_
      obtain ⟨v1, hc, h⟩ := b1_of h
      refine g_callV (pc := 16) C (w' := cs_X4 J.2.2.1 a0 s_year s_wet s_lost s_eaten s_tied s_ripeMany s_gone s_place s_heard s_many s_lying s_ripe ++ cs_X2 J.2.2.1 a1 p_beds p_letters p_readers p_far p_drain p_length p_words p_home) (As := [.ref (a1 0), .int x3]) (st := [.int x2]) (ci := 4) (q0 := 0) rfl rfl (t_X4_leftOf (a0 := a0) (a1 := a1) hc) Sub.same kw_476 kw_465 kw_466 kw_88 hy_X4_leftOf kw_467 rfl (Nat.le_of_ble_eq_true rfl) (Nat.le_of_ble_eq_true rfl) (Nat.le_of_ble_eq_true rfl) (Nat.le_of_ble_eq_true rfl) (Nat.le_of_ble_eq_true rfl) dX4_leftOfAll_16 ?_
      refine g_iadd (pc := 19) C dX4_leftOfAll_19 ?_
      refine g_istore_n (pc := 20) C [(2, .int (x2 + v1)), (0, .ref (a0 0)), (1, .ref (a1 0)), (3, .int x3)] dX4_leftOfAll_20 rfl (by decide) rfl ?_
      refine g_iinc (pc := 21) C (j := 3) [(3, .int (x3 + 1)), (2, .int (x2 + v1)), (0, .ref (a0 0)), (1, .ref (a1 0))] dX4_leftOfAll_21 rfl (ii_1 _) (by decide) rfl ?_
      refine g_goto (pc := 24) C (tgt := 4) dX4_leftOfAll_24 rfl ?_
      refine g_lv [2, 3, 1, 0] rfl ?_
      exact ih (x2 + v1) (x3 + 1) h
set_option maxRecDepth 100000 in
set_option maxHeartbeats 4000000 in
theorem t_X4_leftOfAll {J : Jt} {a0 : Nat → Nat} {a1 : Nat → Nat} {s_year : Int32} {s_wet : Int32} {s_lost : Int32} {s_eaten : Int32} {s_tied : Int32} {s_ripeMany : Int32} {s_gone : Nat → Int32} {s_place : Nat → Int32} {s_heard : Nat → Int32} {s_many : Nat → Int32} {s_lying : Nat → Int32} {s_ripe : Nat → Int32} {p_beds : Int32} {p_letters : Int32} {p_readers : Int32} {p_far : Nat → Int32} {p_drain : Nat → Int32} {p_length : Nat → Int32} {p_words : Nat → Int32} {p_home : Nat → Int32} {r : Int32} (h : f_X4_leftOfAll s_gone p_letters p_length = some r) : Mt J yX4_leftOfAll cX4_leftOfAll 4 (some .int) rm_X4_leftOfAll [.ref (a0 0), .ref (a1 0)] (cs_X4 J.2.2.1 a0 s_year s_wet s_lost s_eaten s_tied s_ripeMany s_gone s_place s_heard s_many s_lying s_ripe ++ cs_X2 J.2.2.1 a1 p_beds p_letters p_readers p_far p_drain p_length p_words p_home) (some (.int r)) (cs_X4 J.2.2.1 a0 s_year s_wet s_lost s_eaten s_tied s_ripeMany s_gone s_place s_heard s_many s_lying s_ripe ++ cs_X2 J.2.2.1 a1 p_beds p_letters p_readers p_far p_drain p_length p_words p_home) := by
  refine Mt_of (own := RX4) (by decide) rfl (Nat.le_of_ble_eq_true rfl) rfl (fun Z C E => ?_)
  unfold f_X4_leftOfAll at h
  show G J Z 0 0 (cs_X4 J.2.2.1 a0 s_year s_wet s_lost s_eaten s_tied s_ripeMany s_gone s_place s_heard s_many s_lying s_ripe ++ cs_X2 J.2.2.1 a1 p_beds p_letters p_readers p_far p_drain p_length p_words p_home) 4 [(0, .ref (a0 0)), (1, .ref (a1 0))] 0 []
  refine g_iconst (pc := 0) C dX4_leftOfAll_0 ci_0 ?_
  refine g_istore_n (pc := 1) C [(2, .int 0), (0, .ref (a0 0)), (1, .ref (a1 0))] dX4_leftOfAll_1 rfl (by decide) rfl ?_
  refine g_iconst (pc := 2) C dX4_leftOfAll_2 ci_0 ?_
  refine g_istore_n (pc := 3) C [(3, .int 0), (2, .int 0), (0, .ref (a0 0)), (1, .ref (a1 0))] dX4_leftOfAll_3 rfl (by decide) rfl ?_
  refine g_lv [2, 3, 1, 0] rfl ?_
  exact j_X4_leftOfAll_4 C E    FU 0 0 h
noncomputable def f_X4_nextOf (s_gone : Nat → Int32) (p_length : Nat → Int32) (p_words : Nat → Int32) (n1 : Int32) : Option (Int32) := b1 (f_X4_leftOf s_gone p_length n1) (fun v1 => if v1 ≤ 0 then some (-1) else if ixb n1 6 then b1 (f_X2_wordAt p_words n1 (s_gone n1.toNatClampNeg)) (fun v2 => some v2) else none)
def rm_X4_nextOf : Room := { frames := 1, cells := 0, slots := 0, locals := 22 }
set_option maxRecDepth 100000 in
set_option maxHeartbeats 4000000 in
theorem t_X4_nextOf {J : Jt} {a0 : Nat → Nat} {a1 : Nat → Nat} {s_year : Int32} {s_wet : Int32} {s_lost : Int32} {s_eaten : Int32} {s_tied : Int32} {s_ripeMany : Int32} {s_gone : Nat → Int32} {s_place : Nat → Int32} {s_heard : Nat → Int32} {s_many : Nat → Int32} {s_lying : Nat → Int32} {s_ripe : Nat → Int32} {p_beds : Int32} {p_letters : Int32} {p_readers : Int32} {p_far : Nat → Int32} {p_drain : Nat → Int32} {p_length : Nat → Int32} {p_words : Nat → Int32} {p_home : Nat → Int32} {n1 : Int32} {r : Int32} (h : f_X4_nextOf s_gone p_length p_words n1 = some r) : Mt J yX4_nextOf cX4_nextOf 3 (some .int) rm_X4_nextOf [.ref (a0 0), .ref (a1 0), .int n1] (cs_X4 J.2.2.1 a0 s_year s_wet s_lost s_eaten s_tied s_ripeMany s_gone s_place s_heard s_many s_lying s_ripe ++ cs_X2 J.2.2.1 a1 p_beds p_letters p_readers p_far p_drain p_length p_words p_home) (some (.int r)) (cs_X4 J.2.2.1 a0 s_year s_wet s_lost s_eaten s_tied s_ripeMany s_gone s_place s_heard s_many s_lying s_ripe ++ cs_X2 J.2.2.1 a1 p_beds p_letters p_readers p_far p_drain p_length p_words p_home) := by
  refine Mt_of (own := RX4) (by decide) rfl (Nat.le_of_ble_eq_true rfl) rfl (fun Z C E => ?_)
  unfold f_X4_nextOf at h
  show G J Z 0 0 (cs_X4 J.2.2.1 a0 s_year s_wet s_lost s_eaten s_tied s_ripeMany s_gone s_place s_heard s_many s_lying s_ripe ++ cs_X2 J.2.2.1 a1 p_beds p_letters p_readers p_far p_drain p_length p_words p_home) 3 [(0, .ref (a0 0)), (1, .ref (a1 0)), (2, .int n1)] 0 []
  refine g_aload_n (pc := 0) C 0 rfl dX4_nextOf_0 ?_
  refine g_aload_n (pc := 1) C 1 rfl dX4_nextOf_1 ?_
  refine g_iload_n (pc := 2) C 2 rfl dX4_nextOf_2 ?_
  obtain ⟨v1, hc, h⟩ := b1_of h
  refine g_callV (pc := 3) C (w' := cs_X4 J.2.2.1 a0 s_year s_wet s_lost s_eaten s_tied s_ripeMany s_gone s_place s_heard s_many s_lying s_ripe ++ cs_X2 J.2.2.1 a1 p_beds p_letters p_readers p_far p_drain p_length p_words p_home) (As := [.ref (a1 0), .int n1]) (st := []) (ci := 4) (q0 := 0) rfl rfl (t_X4_leftOf (a0 := a0) (a1 := a1) hc) Sub.same kw_476 kw_465 kw_466 kw_88 hy_X4_leftOf kw_467 rfl (Nat.le_of_ble_eq_true rfl) (Nat.le_of_ble_eq_true rfl) (Nat.le_of_ble_eq_true rfl) (Nat.le_of_ble_eq_true rfl) (Nat.le_of_ble_eq_true rfl) dX4_nextOf_3 ?_
  refine g_if_le (pc := 6) C (tgt := 23) dX4_nextOf_6 rfl h (fun h => ?_) (fun h => ?_)
  · refine g_iconst (pc := 23) C dX4_nextOf_23 ci_m1 ?_
    cases h
    exact g_iret C E dX4_nextOf_24
  · refine g_aload_n (pc := 9) C 1 rfl dX4_nextOf_9 ?_
    refine g_iload_n (pc := 10) C 2 rfl dX4_nextOf_10 ?_
    refine g_aload_n (pc := 11) C 0 rfl dX4_nextOf_11 ?_
    refine g_get (pc := 12) C FOK_X4 0 rfl rfl 6 (by decide) kw_167 rfl dX4_nextOf_12 ?_
    refine g_iload_n (pc := 15) C 2 rfl dX4_nextOf_15 ?_
    obtain ⟨hi, h⟩ := ix_of h
    refine g_iald (pc := 16) C 1 rfl hi dX4_nextOf_16 ?_
    obtain ⟨v2, hc, h⟩ := b1_of h
    refine g_callV (pc := 17) C (w' := cs_X4 J.2.2.1 a0 s_year s_wet s_lost s_eaten s_tied s_ripeMany s_gone s_place s_heard s_many s_lying s_ripe ++ cs_X2 J.2.2.1 a1 p_beds p_letters p_readers p_far p_drain p_length p_words p_home) (As := [.int n1, .int (s_gone n1.toNatClampNeg)]) (st := []) (ci := 2) (q0 := 7) rfl rfl (t_X2_wordAt (a0 := a1) hc) (Sub.gen [7, 8, 9, 10, 11, 12] [0, 1, 2, 3, 4, 5, 6] [0, 1, 2, 3, 4, 5, 6, 7, 8, 9, 10, 11, 12] rfl (by decide) rfl (by decide) (by decide) rfl (by decide)) kw_477 kw_469 kw_470 kw_92 hy_X2_wordAt kw_471 rfl (Nat.le_of_ble_eq_true rfl) (Nat.le_of_ble_eq_true rfl) (Nat.le_of_ble_eq_true rfl) (Nat.le_of_ble_eq_true rfl) (Nat.le_of_ble_eq_true rfl) dX4_nextOf_17 ?_
    refine g_goto (pc := 20) C (tgt := 24) dX4_nextOf_20 rfl ?_
    cases h
    exact g_iret C E dX4_nextOf_24
noncomputable def f_X4_lyingInAll_4  (s_many : Nat → Int32) : Nat → Int32 → Int32 → Option (Int32)
  | 0, _, _ => none
  | n + 1, x1, x2 => if 6 ≤ x2 then some x1 else if ixb x2 6 then f_X4_lyingInAll_4 s_many n (x1 + (s_many x2.toNatClampNeg)) (x2 + 1) else none
noncomputable def f_X4_lyingInAll (s_many : Nat → Int32) : Option (Int32) := f_X4_lyingInAll_4 s_many FU 0 0
def rm_X4_lyingInAll : Room := { frames := 0, cells := 0, slots := 0, locals := 0 }
set_option maxRecDepth 100000 in
set_option maxHeartbeats 4000000 in
theorem j_X4_lyingInAll_4 {J : Jt} {Z : Zt} {a0 : Nat → Nat} {s_year : Int32} {s_wet : Int32} {s_lost : Int32} {s_eaten : Int32} {s_tied : Int32} {s_ripeMany : Int32} {s_gone : Nat → Int32} {s_place : Nat → Int32} {s_heard : Nat → Int32} {s_many : Nat → Int32} {s_lying : Nat → Int32} {s_ripe : Nat → Int32} {r : Int32} (C : Cx J Z cX4_lyingInAll 3 RX4 (some .int) rm_X4_lyingInAll) (E : Ez J Z 0 0 (some (.int r)) (cs_X4 J.2.2.1 a0 s_year s_wet s_lost s_eaten s_tied s_ripeMany s_gone s_place s_heard s_many s_lying s_ripe)) : ∀ (n : Nat) (x1 : Int32) (x2 : Int32), f_X4_lyingInAll_4 s_many n x1 x2 = some r → G J Z 0 0 (cs_X4 J.2.2.1 a0 s_year s_wet s_lost s_eaten s_tied s_ripeMany s_gone s_place s_heard s_many s_lying s_ripe) 3 [(0, .ref (a0 0)), (1, .int x1), (2, .int x2)] 4 [] := by
  intro n
  induction n with
  | zero =>
    intro x1 x2 h
    rw [f_X4_lyingInAll_4] at h
    cases h
  | succ n ih =>
    intro x1 x2 h
    rw [f_X4_lyingInAll_4] at h
    refine g_iload_n (pc := 4) C 2 rfl dX4_lyingInAll_4 ?_
    refine g_bipush (pc := 5) C dX4_lyingInAll_5 cb_6 ?_
    refine g_icmp_ge (pc := 7) C (tgt := 25) dX4_lyingInAll_7 rfl h (fun h => ?_) (fun h => ?_)
    · refine g_iload_n (pc := 25) C 1 rfl dX4_lyingInAll_25 ?_
      cases h
      exact g_iret C E dX4_lyingInAll_26
    · refine g_iload_n (pc := 10) C 1 rfl dX4_lyingInAll_10 ?_
      refine g_aload_n (pc := 11) C 0 rfl dX4_lyingInAll_11 ?_
      refine g_get (pc := 12) C FOK_X4 0 rfl rfl 9 (by decide) kw_172 rfl dX4_lyingInAll_12 ?_
      refine g_iload_n (pc := 15) C 2 rfl dX4_lyingInAll_15 ?_
      obtain ⟨hi, h⟩ := ix_of h
      refine g_iald (pc := 16) C 4 rfl hi dX4_lyingInAll_16 ?_
      refine g_iadd (pc := 17) C dX4_lyingInAll_17 ?_
      refine g_istore_n (pc := 18) C [(1, .int (x1 + (s_many x2.toNatClampNeg))), (0, .ref (a0 0)), (2, .int x2)] dX4_lyingInAll_18 rfl (by decide) rfl ?_
      refine g_iinc (pc := 19) C (j := 2) [(2, .int (x2 + 1)), (1, .int (x1 + (s_many x2.toNatClampNeg))), (0, .ref (a0 0))] dX4_lyingInAll_19 rfl (ii_1 _) (by decide) rfl ?_
      refine g_goto (pc := 22) C (tgt := 4) dX4_lyingInAll_22 rfl ?_
      refine g_lv [2, 1, 0] rfl ?_
      exact ih (x1 + (s_many x2.toNatClampNeg)) (x2 + 1) h
set_option maxRecDepth 100000 in
set_option maxHeartbeats 4000000 in
theorem t_X4_lyingInAll {J : Jt} {a0 : Nat → Nat} {s_year : Int32} {s_wet : Int32} {s_lost : Int32} {s_eaten : Int32} {s_tied : Int32} {s_ripeMany : Int32} {s_gone : Nat → Int32} {s_place : Nat → Int32} {s_heard : Nat → Int32} {s_many : Nat → Int32} {s_lying : Nat → Int32} {s_ripe : Nat → Int32} {r : Int32} (h : f_X4_lyingInAll s_many = some r) : Mt J yX4_lyingInAll cX4_lyingInAll 3 (some .int) rm_X4_lyingInAll [.ref (a0 0)] (cs_X4 J.2.2.1 a0 s_year s_wet s_lost s_eaten s_tied s_ripeMany s_gone s_place s_heard s_many s_lying s_ripe) (some (.int r)) (cs_X4 J.2.2.1 a0 s_year s_wet s_lost s_eaten s_tied s_ripeMany s_gone s_place s_heard s_many s_lying s_ripe) := by
  refine Mt_of (own := RX4) (by decide) rfl (Nat.le_of_ble_eq_true rfl) rfl (fun Z C E => ?_)
  unfold f_X4_lyingInAll at h
  show G J Z 0 0 (cs_X4 J.2.2.1 a0 s_year s_wet s_lost s_eaten s_tied s_ripeMany s_gone s_place s_heard s_many s_lying s_ripe) 3 [(0, .ref (a0 0))] 0 []
  refine g_iconst (pc := 0) C dX4_lyingInAll_0 ci_0 ?_
  refine g_istore_n (pc := 1) C [(1, .int 0), (0, .ref (a0 0))] dX4_lyingInAll_1 rfl (by decide) rfl ?_
  refine g_iconst (pc := 2) C dX4_lyingInAll_2 ci_0 ?_
  refine g_istore_n (pc := 3) C [(2, .int 0), (1, .int 0), (0, .ref (a0 0))] dX4_lyingInAll_3 rfl (by decide) rfl ?_
  refine g_lv [2, 1, 0] rfl ?_
  exact j_X4_lyingInAll_4 C E    FU 0 0 h
noncomputable def f_X4_wordsIn_4  (s_many : Nat → Int32) (s_lying : Nat → Int32) (n1 : Int32) : Nat → Int32 → Int32 → Option (Int32)
  | 0, _, _ => none
  | n + 1, x2, x3 => if ixb n1 6 then if (s_many n1.toNatClampNeg) ≤ x3 then some x2 else b1 (f_X4_lyingAt s_many s_lying n1 x3) (fun v1 => f_X4_wordsIn_4 s_many s_lying n1 n (x2 ||| ((1 : Int32) <<< (v1 &&& 31))) (x3 + 1)) else none
noncomputable def f_X4_wordsIn (s_many : Nat → Int32) (s_lying : Nat → Int32) (n1 : Int32) : Option (Int32) := f_X4_wordsIn_4 s_many s_lying n1 FU 0 0
def rm_X4_wordsIn : Room := { frames := 1, cells := 0, slots := 0, locals := 22 }
set_option maxRecDepth 100000 in
set_option maxHeartbeats 4000000 in
theorem j_X4_wordsIn_4 {J : Jt} {Z : Zt} {a0 : Nat → Nat} {s_year : Int32} {s_wet : Int32} {s_lost : Int32} {s_eaten : Int32} {s_tied : Int32} {s_ripeMany : Int32} {s_gone : Nat → Int32} {s_place : Nat → Int32} {s_heard : Nat → Int32} {s_many : Nat → Int32} {s_lying : Nat → Int32} {s_ripe : Nat → Int32} {n1 : Int32} {r : Int32} (C : Cx J Z cX4_wordsIn 4 RX4 (some .int) rm_X4_wordsIn) (E : Ez J Z 0 0 (some (.int r)) (cs_X4 J.2.2.1 a0 s_year s_wet s_lost s_eaten s_tied s_ripeMany s_gone s_place s_heard s_many s_lying s_ripe)) : ∀ (n : Nat) (x2 : Int32) (x3 : Int32), f_X4_wordsIn_4 s_many s_lying n1 n x2 x3 = some r → G J Z 0 0 (cs_X4 J.2.2.1 a0 s_year s_wet s_lost s_eaten s_tied s_ripeMany s_gone s_place s_heard s_many s_lying s_ripe) 4 [(0, .ref (a0 0)), (1, .int n1), (2, .int x2), (3, .int x3)] 4 [] := by
  intro n
  induction n with
  | zero =>
    intro x2 x3 h
    rw [f_X4_wordsIn_4] at h
    cases h
  | succ n ih =>
    intro x2 x3 h
    rw [f_X4_wordsIn_4] at h
    refine g_iload_n (pc := 4) C 3 rfl dX4_wordsIn_4 ?_
    refine g_aload_n (pc := 5) C 0 rfl dX4_wordsIn_5 ?_
    refine g_get (pc := 6) C FOK_X4 0 rfl rfl 9 (by decide) kw_172 rfl dX4_wordsIn_6 ?_
    refine g_iload_n (pc := 9) C 1 rfl dX4_wordsIn_9 ?_
    obtain ⟨hi, h⟩ := ix_of h
    refine g_iald (pc := 10) C 4 rfl hi dX4_wordsIn_10 ?_
    refine g_icmp_ge (pc := 11) C (tgt := 31) dX4_wordsIn_11 rfl h (fun h => ?_) (fun h => ?_)
    · refine g_iload_n (pc := 31) C 2 rfl dX4_wordsIn_31 ?_
      cases h
      exact g_iret C E dX4_wordsIn_32
    · refine g_iload_n (pc := 14) C 2 rfl dX4_wordsIn_14 ?_
      refine g_iconst (pc := 15) C dX4_wordsIn_15 ci_1 ?_
      refine g_aload_n (pc := 16) C 0 rfl dX4_wordsIn_16 ?_
      refine g_iload_n (pc := 17) C 1 rfl dX4_wordsIn_17 ?_
      refine g_iload_n (pc := 18) C 3 rfl dX4_wordsIn_18 ?_
      obtain ⟨v1, hc, h⟩ := b1_of h
      refine g_callV (pc := 19) C (w' := cs_X4 J.2.2.1 a0 s_year s_wet s_lost s_eaten s_tied s_ripeMany s_gone s_place s_heard s_many s_lying s_ripe) (As := [.int n1, .int x3]) (st := [.int 1, .int x2]) (ci := 4) (q0 := 0) rfl rfl (t_X4_lyingAt (a0 := a0) hc) Sub.same kw_873 kw_874 kw_875 kw_88 hy_X4_lyingAt kw_876 rfl (Nat.le_of_ble_eq_true rfl) (Nat.le_of_ble_eq_true rfl) (Nat.le_of_ble_eq_true rfl) (Nat.le_of_ble_eq_true rfl) (Nat.le_of_ble_eq_true rfl) dX4_wordsIn_19 ?_
      refine g_ishl (pc := 22) C dX4_wordsIn_22 ?_
      refine g_ior (pc := 23) C dX4_wordsIn_23 ?_
      refine g_istore_n (pc := 24) C [(2, .int (x2 ||| ((1 : Int32) <<< (v1 &&& 31)))), (0, .ref (a0 0)), (1, .int n1), (3, .int x3)] dX4_wordsIn_24 rfl (by decide) rfl ?_
      refine g_iinc (pc := 25) C (j := 3) [(3, .int (x3 + 1)), (2, .int (x2 ||| ((1 : Int32) <<< (v1 &&& 31)))), (0, .ref (a0 0)), (1, .int n1)] dX4_wordsIn_25 rfl (ii_1 _) (by decide) rfl ?_
      refine g_goto (pc := 28) C (tgt := 4) dX4_wordsIn_28 rfl ?_
      refine g_lv [2, 3, 1, 0] rfl ?_
      exact ih (x2 ||| ((1 : Int32) <<< (v1 &&& 31))) (x3 + 1) h
set_option maxRecDepth 100000 in
set_option maxHeartbeats 4000000 in
theorem t_X4_wordsIn {J : Jt} {a0 : Nat → Nat} {s_year : Int32} {s_wet : Int32} {s_lost : Int32} {s_eaten : Int32} {s_tied : Int32} {s_ripeMany : Int32} {s_gone : Nat → Int32} {s_place : Nat → Int32} {s_heard : Nat → Int32} {s_many : Nat → Int32} {s_lying : Nat → Int32} {s_ripe : Nat → Int32} {n1 : Int32} {r : Int32} (h : f_X4_wordsIn s_many s_lying n1 = some r) : Mt J yX4_wordsIn cX4_wordsIn 4 (some .int) rm_X4_wordsIn [.ref (a0 0), .int n1] (cs_X4 J.2.2.1 a0 s_year s_wet s_lost s_eaten s_tied s_ripeMany s_gone s_place s_heard s_many s_lying s_ripe) (some (.int r)) (cs_X4 J.2.2.1 a0 s_year s_wet s_lost s_eaten s_tied s_ripeMany s_gone s_place s_heard s_many s_lying s_ripe) := by
  refine Mt_of (own := RX4) (by decide) rfl (Nat.le_of_ble_eq_true rfl) rfl (fun Z C E => ?_)
  unfold f_X4_wordsIn at h
  show G J Z 0 0 (cs_X4 J.2.2.1 a0 s_year s_wet s_lost s_eaten s_tied s_ripeMany s_gone s_place s_heard s_many s_lying s_ripe) 4 [(0, .ref (a0 0)), (1, .int n1)] 0 []
  refine g_iconst (pc := 0) C dX4_wordsIn_0 ci_0 ?_
  refine g_istore_n (pc := 1) C [(2, .int 0), (0, .ref (a0 0)), (1, .int n1)] dX4_wordsIn_1 rfl (by decide) rfl ?_
  refine g_iconst (pc := 2) C dX4_wordsIn_2 ci_0 ?_
  refine g_istore_n (pc := 3) C [(3, .int 0), (2, .int 0), (0, .ref (a0 0)), (1, .int n1)] dX4_wordsIn_3 rfl (by decide) rfl ?_
  refine g_lv [2, 3, 1, 0] rfl ?_
  exact j_X4_wordsIn_4 C E    FU 0 0 h
noncomputable def f_X4_wordsInAll_4  (s_many : Nat → Int32) (s_lying : Nat → Int32) (p_beds : Int32) : Nat → Int32 → Int32 → Option (Int32)
  | 0, _, _ => none
  | n + 1, x2, x3 => if p_beds ≤ x3 then some x2 else b1 (f_X4_wordsIn s_many s_lying x3) (fun v1 => f_X4_wordsInAll_4 s_many s_lying p_beds n (x2 ||| v1) (x3 + 1))
noncomputable def f_X4_wordsInAll (s_many : Nat → Int32) (s_lying : Nat → Int32) (p_beds : Int32) : Option (Int32) := f_X4_wordsInAll_4 s_many s_lying p_beds FU 0 0
def rm_X4_wordsInAll : Room := { frames := 2, cells := 0, slots := 0, locals := 45 }
set_option maxRecDepth 100000 in
set_option maxHeartbeats 4000000 in
theorem j_X4_wordsInAll_4 {J : Jt} {Z : Zt} {a0 : Nat → Nat} {a1 : Nat → Nat} {s_year : Int32} {s_wet : Int32} {s_lost : Int32} {s_eaten : Int32} {s_tied : Int32} {s_ripeMany : Int32} {s_gone : Nat → Int32} {s_place : Nat → Int32} {s_heard : Nat → Int32} {s_many : Nat → Int32} {s_lying : Nat → Int32} {s_ripe : Nat → Int32} {p_beds : Int32} {p_letters : Int32} {p_readers : Int32} {p_far : Nat → Int32} {p_drain : Nat → Int32} {p_length : Nat → Int32} {p_words : Nat → Int32} {p_home : Nat → Int32} {r : Int32} (C : Cx J Z cX4_wordsInAll 4 RX4 (some .int) rm_X4_wordsInAll) (E : Ez J Z 0 0 (some (.int r)) (cs_X4 J.2.2.1 a0 s_year s_wet s_lost s_eaten s_tied s_ripeMany s_gone s_place s_heard s_many s_lying s_ripe ++ cs_X2 J.2.2.1 a1 p_beds p_letters p_readers p_far p_drain p_length p_words p_home)) : ∀ (n : Nat) (x2 : Int32) (x3 : Int32), f_X4_wordsInAll_4 s_many s_lying p_beds n x2 x3 = some r → G J Z 0 0 (cs_X4 J.2.2.1 a0 s_year s_wet s_lost s_eaten s_tied s_ripeMany s_gone s_place s_heard s_many s_lying s_ripe ++ cs_X2 J.2.2.1 a1 p_beds p_letters p_readers p_far p_drain p_length p_words p_home) 4 [(0, .ref (a0 0)), (1, .ref (a1 0)), (2, .int x2), (3, .int x3)] 4 [] := by
  intro n
  induction n with
  | zero =>
    intro x2 x3 h
    rw [f_X4_wordsInAll_4] at h
    cases h
  | succ n ih =>
    intro x2 x3 h
    rw [f_X4_wordsInAll_4] at h
    refine g_iload_n (pc := 4) C 3 rfl dX4_wordsInAll_4 ?_
    refine g_aload_n (pc := 5) C 1 rfl dX4_wordsInAll_5 ?_
    refine g_get (pc := 6) C FOK_X2 7 rfl rfl 0 (by decide) kw_280 rfl dX4_wordsInAll_6 ?_
    refine g_icmp_ge (pc := 9) C (tgt := 26) dX4_wordsInAll_9 rfl h (fun h => ?_) (fun h => ?_)
    · refine g_iload_n (pc := 26) C 2 rfl dX4_wordsInAll_26 ?_
      cases h
      exact g_iret C E dX4_wordsInAll_27
    · refine g_iload_n (pc := 12) C 2 rfl dX4_wordsInAll_12 ?_
      refine g_aload_n (pc := 13) C 0 rfl dX4_wordsInAll_13 ?_
      refine g_iload_n (pc := 14) C 3 rfl dX4_wordsInAll_14 ?_
      obtain ⟨v1, hc, h⟩ := b1_of h
      refine g_callV (pc := 15) C (w' := cs_X4 J.2.2.1 a0 s_year s_wet s_lost s_eaten s_tied s_ripeMany s_gone s_place s_heard s_many s_lying s_ripe ++ cs_X2 J.2.2.1 a1 p_beds p_letters p_readers p_far p_drain p_length p_words p_home) (As := [.int x3]) (st := [.int x2]) (ci := 4) (q0 := 0) rfl rfl (t_X4_wordsIn (a0 := a0) hc) (Sub.gen [0, 1, 2, 3, 4, 5, 6] [7, 8, 9, 10, 11, 12] [6, 7, 8, 9, 10, 11, 12, 0, 1, 2, 3, 4, 5] rfl (by decide) rfl (by decide) (by decide) rfl (by decide)) kw_869 kw_870 kw_871 kw_88 hy_X4_wordsIn kw_872 rfl (Nat.le_of_ble_eq_true rfl) (Nat.le_of_ble_eq_true rfl) (Nat.le_of_ble_eq_true rfl) (Nat.le_of_ble_eq_true rfl) (Nat.le_of_ble_eq_true rfl) dX4_wordsInAll_15 ?_
      refine g_ior (pc := 18) C dX4_wordsInAll_18 ?_
      refine g_istore_n (pc := 19) C [(2, .int (x2 ||| v1)), (0, .ref (a0 0)), (1, .ref (a1 0)), (3, .int x3)] dX4_wordsInAll_19 rfl (by decide) rfl ?_
      refine g_iinc (pc := 20) C (j := 3) [(3, .int (x3 + 1)), (2, .int (x2 ||| v1)), (0, .ref (a0 0)), (1, .ref (a1 0))] dX4_wordsInAll_20 rfl (ii_1 _) (by decide) rfl ?_
      refine g_goto (pc := 23) C (tgt := 4) dX4_wordsInAll_23 rfl ?_
      refine g_lv [2, 3, 1, 0] rfl ?_
      exact ih (x2 ||| v1) (x3 + 1) h
set_option maxRecDepth 100000 in
set_option maxHeartbeats 4000000 in
theorem t_X4_wordsInAll {J : Jt} {a0 : Nat → Nat} {a1 : Nat → Nat} {s_year : Int32} {s_wet : Int32} {s_lost : Int32} {s_eaten : Int32} {s_tied : Int32} {s_ripeMany : Int32} {s_gone : Nat → Int32} {s_place : Nat → Int32} {s_heard : Nat → Int32} {s_many : Nat → Int32} {s_lying : Nat → Int32} {s_ripe : Nat → Int32} {p_beds : Int32} {p_letters : Int32} {p_readers : Int32} {p_far : Nat → Int32} {p_drain : Nat → Int32} {p_length : Nat → Int32} {p_words : Nat → Int32} {p_home : Nat → Int32} {r : Int32} (h : f_X4_wordsInAll s_many s_lying p_beds = some r) : Mt J yX4_wordsInAll cX4_wordsInAll 4 (some .int) rm_X4_wordsInAll [.ref (a0 0), .ref (a1 0)] (cs_X4 J.2.2.1 a0 s_year s_wet s_lost s_eaten s_tied s_ripeMany s_gone s_place s_heard s_many s_lying s_ripe ++ cs_X2 J.2.2.1 a1 p_beds p_letters p_readers p_far p_drain p_length p_words p_home) (some (.int r)) (cs_X4 J.2.2.1 a0 s_year s_wet s_lost s_eaten s_tied s_ripeMany s_gone s_place s_heard s_many s_lying s_ripe ++ cs_X2 J.2.2.1 a1 p_beds p_letters p_readers p_far p_drain p_length p_words p_home) := by
  refine Mt_of (own := RX4) (by decide) rfl (Nat.le_of_ble_eq_true rfl) rfl (fun Z C E => ?_)
  unfold f_X4_wordsInAll at h
  show G J Z 0 0 (cs_X4 J.2.2.1 a0 s_year s_wet s_lost s_eaten s_tied s_ripeMany s_gone s_place s_heard s_many s_lying s_ripe ++ cs_X2 J.2.2.1 a1 p_beds p_letters p_readers p_far p_drain p_length p_words p_home) 4 [(0, .ref (a0 0)), (1, .ref (a1 0))] 0 []
  refine g_iconst (pc := 0) C dX4_wordsInAll_0 ci_0 ?_
  refine g_istore_n (pc := 1) C [(2, .int 0), (0, .ref (a0 0)), (1, .ref (a1 0))] dX4_wordsInAll_1 rfl (by decide) rfl ?_
  refine g_iconst (pc := 2) C dX4_wordsInAll_2 ci_0 ?_
  refine g_istore_n (pc := 3) C [(3, .int 0), (2, .int 0), (0, .ref (a0 0)), (1, .ref (a1 0))] dX4_wordsInAll_3 rfl (by decide) rfl ?_
  refine g_lv [2, 3, 1, 0] rfl ?_
  exact j_X4_wordsInAll_4 C E    FU 0 0 h
noncomputable def f_X4_timesOf_17  (s_many : Nat → Int32) (s_lying : Nat → Int32) (p_beds : Int32) (n1 : Int32) (k5 : Int32 → Int32 → Option (Int32)) : Nat → Int32 → Int32 → Int32 → Option (Int32)
  | 0, _, _, _ => none
  | n + 1, x3, x4, x5 => if ixb x4 6 then if (s_many x4.toNatClampNeg) ≤ x5 then k5 x3 (x4 + 1) else b1 (f_X4_lyingAt s_many s_lying x4 x5) (fun v1 => if v1 = n1 then f_X4_timesOf_17 s_many s_lying p_beds n1 k5 n (x3 + 1) x4 (x5 + 1) else f_X4_timesOf_17 s_many s_lying p_beds n1 k5 n (x3 + 0) x4 (x5 + 1)) else none
noncomputable def f_X4_timesOf_5  (s_many : Nat → Int32) (s_lying : Nat → Int32) (p_beds : Int32) (n1 : Int32) : Nat → Int32 → Int32 → Option (Int32)
  | 0, _, _ => none
  | n + 1, x3, x4 => if p_beds ≤ x4 then some x3 else f_X4_timesOf_17 s_many s_lying p_beds n1 (f_X4_timesOf_5 s_many s_lying p_beds n1 n) FU x3 x4 0
noncomputable def f_X4_timesOf (s_many : Nat → Int32) (s_lying : Nat → Int32) (p_beds : Int32) (n1 : Int32) : Option (Int32) := f_X4_timesOf_5 s_many s_lying p_beds n1 FU 0 0
def rm_X4_timesOf : Room := { frames := 1, cells := 0, slots := 0, locals := 22 }
set_option maxRecDepth 100000 in
set_option maxHeartbeats 4000000 in
theorem j_X4_timesOf_17 {J : Jt} {Z : Zt} {a0 : Nat → Nat} {a1 : Nat → Nat} {s_year : Int32} {s_wet : Int32} {s_lost : Int32} {s_eaten : Int32} {s_tied : Int32} {s_ripeMany : Int32} {s_gone : Nat → Int32} {s_place : Nat → Int32} {s_heard : Nat → Int32} {s_many : Nat → Int32} {s_lying : Nat → Int32} {s_ripe : Nat → Int32} {p_beds : Int32} {p_letters : Int32} {p_readers : Int32} {p_far : Nat → Int32} {p_drain : Nat → Int32} {p_length : Nat → Int32} {p_words : Nat → Int32} {p_home : Nat → Int32} {n1 : Int32} {r : Int32} {k5 : Int32 → Int32 → Option (Int32)} (C : Cx J Z cX4_timesOf 6 RX4 (some .int) rm_X4_timesOf) (E : Ez J Z 0 0 (some (.int r)) (cs_X4 J.2.2.1 a0 s_year s_wet s_lost s_eaten s_tied s_ripeMany s_gone s_place s_heard s_many s_lying s_ripe ++ cs_X2 J.2.2.1 a1 p_beds p_letters p_readers p_far p_drain p_length p_words p_home)) (hk5 : ∀ (x3 : Int32) (x4 : Int32), k5 x3 x4 = some r → G J Z 0 0 (cs_X4 J.2.2.1 a0 s_year s_wet s_lost s_eaten s_tied s_ripeMany s_gone s_place s_heard s_many s_lying s_ripe ++ cs_X2 J.2.2.1 a1 p_beds p_letters p_readers p_far p_drain p_length p_words p_home) 6 [(0, .ref (a0 0)), (1, .ref (a1 0)), (2, .int n1), (3, .int x3), (4, .int x4)] 5 []) : ∀ (n : Nat) (x3 : Int32) (x4 : Int32) (x5 : Int32), f_X4_timesOf_17 s_many s_lying p_beds n1 k5 n x3 x4 x5 = some r → G J Z 0 0 (cs_X4 J.2.2.1 a0 s_year s_wet s_lost s_eaten s_tied s_ripeMany s_gone s_place s_heard s_many s_lying s_ripe ++ cs_X2 J.2.2.1 a1 p_beds p_letters p_readers p_far p_drain p_length p_words p_home) 6 [(0, .ref (a0 0)), (1, .ref (a1 0)), (2, .int n1), (3, .int x3), (4, .int x4), (5, .int x5)] 17 [] := by
  intro n
  induction n with
  | zero =>
    intro x3 x4 x5 h
    rw [f_X4_timesOf_17] at h
    cases h
  | succ n ih =>
    intro x3 x4 x5 h
    rw [f_X4_timesOf_17] at h
    refine g_iload (pc := 17) C 5 rfl dX4_timesOf_17 ?_
    refine g_aload_n (pc := 19) C 0 rfl dX4_timesOf_19 ?_
    refine g_get (pc := 20) C FOK_X4 0 rfl rfl 9 (by decide) kw_172 rfl dX4_timesOf_20 ?_
    refine g_iload (pc := 23) C 4 rfl dX4_timesOf_23 ?_
    obtain ⟨hi, h⟩ := ix_of h
    refine g_iald (pc := 25) C 4 rfl hi dX4_timesOf_25 ?_
    refine g_icmp_ge (pc := 26) C (tgt := 55) dX4_timesOf_26 rfl h (fun h => ?_) (fun h => ?_)
    · refine g_iinc (pc := 55) C (j := 4) [(4, .int (x4 + 1)), (0, .ref (a0 0)), (1, .ref (a1 0)), (2, .int n1), (3, .int x3), (5, .int x5)] dX4_timesOf_55 rfl (ii_1 _) (by decide) rfl ?_
      refine g_goto (pc := 58) C (tgt := 5) dX4_timesOf_58 rfl ?_
      refine g_lv [1, 2, 3, 4, 0] rfl ?_
      exact hk5 x3 (x4 + 1) h
    · refine g_iload_n (pc := 29) C 3 rfl dX4_timesOf_29 ?_
      refine g_aload_n (pc := 30) C 0 rfl dX4_timesOf_30 ?_
      refine g_iload (pc := 31) C 4 rfl dX4_timesOf_31 ?_
      refine g_iload (pc := 33) C 5 rfl dX4_timesOf_33 ?_
      obtain ⟨v1, hc, h⟩ := b1_of h
      refine g_callV (pc := 35) C (w' := cs_X4 J.2.2.1 a0 s_year s_wet s_lost s_eaten s_tied s_ripeMany s_gone s_place s_heard s_many s_lying s_ripe ++ cs_X2 J.2.2.1 a1 p_beds p_letters p_readers p_far p_drain p_length p_words p_home) (As := [.int x4, .int x5]) (st := [.int x3]) (ci := 4) (q0 := 0) rfl rfl (t_X4_lyingAt (a0 := a0) hc) (Sub.gen [0, 1, 2, 3, 4, 5, 6] [7, 8, 9, 10, 11, 12] [6, 7, 8, 9, 10, 11, 12, 0, 1, 2, 3, 4, 5] rfl (by decide) rfl (by decide) (by decide) rfl (by decide)) kw_873 kw_874 kw_875 kw_88 hy_X4_lyingAt kw_876 rfl (Nat.le_of_ble_eq_true rfl) (Nat.le_of_ble_eq_true rfl) (Nat.le_of_ble_eq_true rfl) (Nat.le_of_ble_eq_true rfl) (Nat.le_of_ble_eq_true rfl) dX4_timesOf_35 ?_
      refine g_iload_n (pc := 38) C 2 rfl dX4_timesOf_38 ?_
      refine g_icmp_ne (pc := 39) C (tgt := 46) dX4_timesOf_39 rfl h (fun h => ?_) (fun h => ?_)
      · refine g_iconst (pc := 46) C dX4_timesOf_46 ci_0 ?_
        refine g_iadd (pc := 47) C dX4_timesOf_47 ?_
        refine g_istore_n (pc := 48) C [(3, .int (x3 + 0)), (0, .ref (a0 0)), (1, .ref (a1 0)), (2, .int n1), (4, .int x4), (5, .int x5)] dX4_timesOf_48 rfl (by decide) rfl ?_
        refine g_iinc (pc := 49) C (j := 5) [(5, .int (x5 + 1)), (3, .int (x3 + 0)), (0, .ref (a0 0)), (1, .ref (a1 0)), (2, .int n1), (4, .int x4)] dX4_timesOf_49 rfl (ii_1 _) (by decide) rfl ?_
        refine g_goto (pc := 52) C (tgt := 17) dX4_timesOf_52 rfl ?_
        refine g_lv [2, 3, 4, 1, 5, 0] rfl ?_
        exact ih (x3 + 0) x4 (x5 + 1) h
      · refine g_iconst (pc := 42) C dX4_timesOf_42 ci_1 ?_
        refine g_goto (pc := 43) C (tgt := 47) dX4_timesOf_43 rfl ?_
        refine g_iadd (pc := 47) C dX4_timesOf_47 ?_
        refine g_istore_n (pc := 48) C [(3, .int (x3 + 1)), (0, .ref (a0 0)), (1, .ref (a1 0)), (2, .int n1), (4, .int x4), (5, .int x5)] dX4_timesOf_48 rfl (by decide) rfl ?_
        refine g_iinc (pc := 49) C (j := 5) [(5, .int (x5 + 1)), (3, .int (x3 + 1)), (0, .ref (a0 0)), (1, .ref (a1 0)), (2, .int n1), (4, .int x4)] dX4_timesOf_49 rfl (ii_1 _) (by decide) rfl ?_
        refine g_goto (pc := 52) C (tgt := 17) dX4_timesOf_52 rfl ?_
        refine g_lv [2, 3, 4, 1, 5, 0] rfl ?_
        exact ih (x3 + 1) x4 (x5 + 1) h
set_option maxRecDepth 100000 in
set_option maxHeartbeats 4000000 in
theorem j_X4_timesOf_5 {J : Jt} {Z : Zt} {a0 : Nat → Nat} {a1 : Nat → Nat} {s_year : Int32} {s_wet : Int32} {s_lost : Int32} {s_eaten : Int32} {s_tied : Int32} {s_ripeMany : Int32} {s_gone : Nat → Int32} {s_place : Nat → Int32} {s_heard : Nat → Int32} {s_many : Nat → Int32} {s_lying : Nat → Int32} {s_ripe : Nat → Int32} {p_beds : Int32} {p_letters : Int32} {p_readers : Int32} {p_far : Nat → Int32} {p_drain : Nat → Int32} {p_length : Nat → Int32} {p_words : Nat → Int32} {p_home : Nat → Int32} {n1 : Int32} {r : Int32} (C : Cx J Z cX4_timesOf 6 RX4 (some .int) rm_X4_timesOf) (E : Ez J Z 0 0 (some (.int r)) (cs_X4 J.2.2.1 a0 s_year s_wet s_lost s_eaten s_tied s_ripeMany s_gone s_place s_heard s_many s_lying s_ripe ++ cs_X2 J.2.2.1 a1 p_beds p_letters p_readers p_far p_drain p_length p_words p_home)) : ∀ (n : Nat) (x3 : Int32) (x4 : Int32), f_X4_timesOf_5 s_many s_lying p_beds n1 n x3 x4 = some r → G J Z 0 0 (cs_X4 J.2.2.1 a0 s_year s_wet s_lost s_eaten s_tied s_ripeMany s_gone s_place s_heard s_many s_lying s_ripe ++ cs_X2 J.2.2.1 a1 p_beds p_letters p_readers p_far p_drain p_length p_words p_home) 6 [(0, .ref (a0 0)), (1, .ref (a1 0)), (2, .int n1), (3, .int x3), (4, .int x4)] 5 [] := by
  intro n
  induction n with
  | zero =>
    intro x3 x4 h
    rw [f_X4_timesOf_5] at h
    cases h
  | succ n ih =>
    intro x3 x4 h
    rw [f_X4_timesOf_5] at h
    refine g_iload (pc := 5) C 4 rfl dX4_timesOf_5 ?_
    refine g_aload_n (pc := 7) C 1 rfl dX4_timesOf_7 ?_
    refine g_get (pc := 8) C FOK_X2 7 rfl rfl 0 (by decide) kw_280 rfl dX4_timesOf_8 ?_
    refine g_icmp_ge (pc := 11) C (tgt := 61) dX4_timesOf_11 rfl h (fun h => ?_) (fun h => ?_)
    · refine g_iload_n (pc := 61) C 3 rfl dX4_timesOf_61 ?_
      cases h
      exact g_iret C E dX4_timesOf_62
    · refine g_iconst (pc := 14) C dX4_timesOf_14 ci_0 ?_
      refine g_istore (pc := 15) C [(5, .int 0), (0, .ref (a0 0)), (1, .ref (a1 0)), (2, .int n1), (3, .int x3), (4, .int x4)] dX4_timesOf_15 (by decide) rfl ?_
      refine g_lv [1, 2, 3, 4, 5, 0] rfl ?_
      exact j_X4_timesOf_17 C E   ih FU x3 x4 0 h
set_option maxRecDepth 100000 in
set_option maxHeartbeats 4000000 in
theorem t_X4_timesOf {J : Jt} {a0 : Nat → Nat} {a1 : Nat → Nat} {s_year : Int32} {s_wet : Int32} {s_lost : Int32} {s_eaten : Int32} {s_tied : Int32} {s_ripeMany : Int32} {s_gone : Nat → Int32} {s_place : Nat → Int32} {s_heard : Nat → Int32} {s_many : Nat → Int32} {s_lying : Nat → Int32} {s_ripe : Nat → Int32} {p_beds : Int32} {p_letters : Int32} {p_readers : Int32} {p_far : Nat → Int32} {p_drain : Nat → Int32} {p_length : Nat → Int32} {p_words : Nat → Int32} {p_home : Nat → Int32} {n1 : Int32} {r : Int32} (h : f_X4_timesOf s_many s_lying p_beds n1 = some r) : Mt J yX4_timesOf cX4_timesOf 6 (some .int) rm_X4_timesOf [.ref (a0 0), .ref (a1 0), .int n1] (cs_X4 J.2.2.1 a0 s_year s_wet s_lost s_eaten s_tied s_ripeMany s_gone s_place s_heard s_many s_lying s_ripe ++ cs_X2 J.2.2.1 a1 p_beds p_letters p_readers p_far p_drain p_length p_words p_home) (some (.int r)) (cs_X4 J.2.2.1 a0 s_year s_wet s_lost s_eaten s_tied s_ripeMany s_gone s_place s_heard s_many s_lying s_ripe ++ cs_X2 J.2.2.1 a1 p_beds p_letters p_readers p_far p_drain p_length p_words p_home) := by
  refine Mt_of (own := RX4) (by decide) rfl (Nat.le_of_ble_eq_true rfl) rfl (fun Z C E => ?_)
  unfold f_X4_timesOf at h
  show G J Z 0 0 (cs_X4 J.2.2.1 a0 s_year s_wet s_lost s_eaten s_tied s_ripeMany s_gone s_place s_heard s_many s_lying s_ripe ++ cs_X2 J.2.2.1 a1 p_beds p_letters p_readers p_far p_drain p_length p_words p_home) 6 [(0, .ref (a0 0)), (1, .ref (a1 0)), (2, .int n1)] 0 []
  refine g_iconst (pc := 0) C dX4_timesOf_0 ci_0 ?_
  refine g_istore_n (pc := 1) C [(3, .int 0), (0, .ref (a0 0)), (1, .ref (a1 0)), (2, .int n1)] dX4_timesOf_1 rfl (by decide) rfl ?_
  refine g_iconst (pc := 2) C dX4_timesOf_2 ci_0 ?_
  refine g_istore (pc := 3) C [(4, .int 0), (3, .int 0), (0, .ref (a0 0)), (1, .ref (a1 0)), (2, .int n1)] dX4_timesOf_3 (by decide) rfl ?_
  refine g_lv [2, 3, 4, 1, 0] rfl ?_
  exact j_X4_timesOf_5 C E    FU 0 0 h
noncomputable def f_X4_readersAt_5  (s_place : Nat → Int32) (p_readers : Int32) (n1 : Int32) : Nat → Int32 → Int32 → Option (Int32)
  | 0, _, _ => none
  | n + 1, x3, x4 => if p_readers ≤ x4 then some x3 else if ixb x4 5 then if (s_place x4.toNatClampNeg) = n1 then f_X4_readersAt_5 s_place p_readers n1 n (x3 ||| ((1 : Int32) <<< (x4 &&& 31))) (x4 + 1) else f_X4_readersAt_5 s_place p_readers n1 n (x3 ||| 0) (x4 + 1) else none
noncomputable def f_X4_readersAt (s_place : Nat → Int32) (p_readers : Int32) (n1 : Int32) : Option (Int32) := f_X4_readersAt_5 s_place p_readers n1 FU 0 0
def rm_X4_readersAt : Room := { frames := 0, cells := 0, slots := 0, locals := 0 }
set_option maxRecDepth 100000 in
set_option maxHeartbeats 4000000 in
theorem j_X4_readersAt_5 {J : Jt} {Z : Zt} {a0 : Nat → Nat} {a1 : Nat → Nat} {s_year : Int32} {s_wet : Int32} {s_lost : Int32} {s_eaten : Int32} {s_tied : Int32} {s_ripeMany : Int32} {s_gone : Nat → Int32} {s_place : Nat → Int32} {s_heard : Nat → Int32} {s_many : Nat → Int32} {s_lying : Nat → Int32} {s_ripe : Nat → Int32} {p_beds : Int32} {p_letters : Int32} {p_readers : Int32} {p_far : Nat → Int32} {p_drain : Nat → Int32} {p_length : Nat → Int32} {p_words : Nat → Int32} {p_home : Nat → Int32} {n1 : Int32} {r : Int32} (C : Cx J Z cX4_readersAt 5 RX4 (some .int) rm_X4_readersAt) (E : Ez J Z 0 0 (some (.int r)) (cs_X4 J.2.2.1 a0 s_year s_wet s_lost s_eaten s_tied s_ripeMany s_gone s_place s_heard s_many s_lying s_ripe ++ cs_X2 J.2.2.1 a1 p_beds p_letters p_readers p_far p_drain p_length p_words p_home)) : ∀ (n : Nat) (x3 : Int32) (x4 : Int32), f_X4_readersAt_5 s_place p_readers n1 n x3 x4 = some r → G J Z 0 0 (cs_X4 J.2.2.1 a0 s_year s_wet s_lost s_eaten s_tied s_ripeMany s_gone s_place s_heard s_many s_lying s_ripe ++ cs_X2 J.2.2.1 a1 p_beds p_letters p_readers p_far p_drain p_length p_words p_home) 5 [(0, .ref (a0 0)), (1, .ref (a1 0)), (2, .int n1), (3, .int x3), (4, .int x4)] 5 [] := by
  intro n
  induction n with
  | zero =>
    intro x3 x4 h
    rw [f_X4_readersAt_5] at h
    cases h
  | succ n ih =>
    intro x3 x4 h
    rw [f_X4_readersAt_5] at h
    refine g_iload (pc := 5) C 4 rfl dX4_readersAt_5 ?_
    refine g_aload_n (pc := 7) C 1 rfl dX4_readersAt_7 ?_
    refine g_get (pc := 8) C FOK_X2 7 rfl rfl 2 (by decide) kw_290 rfl dX4_readersAt_8 ?_
    refine g_icmp_ge (pc := 11) C (tgt := 42) dX4_readersAt_11 rfl h (fun h => ?_) (fun h => ?_)
    · refine g_iload_n (pc := 42) C 3 rfl dX4_readersAt_42 ?_
      cases h
      exact g_iret C E dX4_readersAt_43
    · refine g_iload_n (pc := 14) C 3 rfl dX4_readersAt_14 ?_
      refine g_aload_n (pc := 15) C 0 rfl dX4_readersAt_15 ?_
      refine g_get (pc := 16) C FOK_X4 0 rfl rfl 7 (by decide) kw_168 rfl dX4_readersAt_16 ?_
      refine g_iload (pc := 19) C 4 rfl dX4_readersAt_19 ?_
      obtain ⟨hi, h⟩ := ix_of h
      refine g_iald (pc := 21) C 2 rfl hi dX4_readersAt_21 ?_
      refine g_iload_n (pc := 22) C 2 rfl dX4_readersAt_22 ?_
      refine g_icmp_ne (pc := 23) C (tgt := 33) dX4_readersAt_23 rfl h (fun h => ?_) (fun h => ?_)
      · refine g_iconst (pc := 33) C dX4_readersAt_33 ci_0 ?_
        refine g_ior (pc := 34) C dX4_readersAt_34 ?_
        refine g_istore_n (pc := 35) C [(3, .int (x3 ||| 0)), (0, .ref (a0 0)), (1, .ref (a1 0)), (2, .int n1), (4, .int x4)] dX4_readersAt_35 rfl (by decide) rfl ?_
        refine g_iinc (pc := 36) C (j := 4) [(4, .int (x4 + 1)), (3, .int (x3 ||| 0)), (0, .ref (a0 0)), (1, .ref (a1 0)), (2, .int n1)] dX4_readersAt_36 rfl (ii_1 _) (by decide) rfl ?_
        refine g_goto (pc := 39) C (tgt := 5) dX4_readersAt_39 rfl ?_
        refine g_lv [2, 3, 4, 1, 0] rfl ?_
        exact ih (x3 ||| 0) (x4 + 1) h
      · refine g_iconst (pc := 26) C dX4_readersAt_26 ci_1 ?_
        refine g_iload (pc := 27) C 4 rfl dX4_readersAt_27 ?_
        refine g_ishl (pc := 29) C dX4_readersAt_29 ?_
        refine g_goto (pc := 30) C (tgt := 34) dX4_readersAt_30 rfl ?_
        refine g_ior (pc := 34) C dX4_readersAt_34 ?_
        refine g_istore_n (pc := 35) C [(3, .int (x3 ||| ((1 : Int32) <<< (x4 &&& 31)))), (0, .ref (a0 0)), (1, .ref (a1 0)), (2, .int n1), (4, .int x4)] dX4_readersAt_35 rfl (by decide) rfl ?_
        refine g_iinc (pc := 36) C (j := 4) [(4, .int (x4 + 1)), (3, .int (x3 ||| ((1 : Int32) <<< (x4 &&& 31)))), (0, .ref (a0 0)), (1, .ref (a1 0)), (2, .int n1)] dX4_readersAt_36 rfl (ii_1 _) (by decide) rfl ?_
        refine g_goto (pc := 39) C (tgt := 5) dX4_readersAt_39 rfl ?_
        refine g_lv [2, 3, 4, 1, 0] rfl ?_
        exact ih (x3 ||| ((1 : Int32) <<< (x4 &&& 31))) (x4 + 1) h
set_option maxRecDepth 100000 in
set_option maxHeartbeats 4000000 in
theorem t_X4_readersAt {J : Jt} {a0 : Nat → Nat} {a1 : Nat → Nat} {s_year : Int32} {s_wet : Int32} {s_lost : Int32} {s_eaten : Int32} {s_tied : Int32} {s_ripeMany : Int32} {s_gone : Nat → Int32} {s_place : Nat → Int32} {s_heard : Nat → Int32} {s_many : Nat → Int32} {s_lying : Nat → Int32} {s_ripe : Nat → Int32} {p_beds : Int32} {p_letters : Int32} {p_readers : Int32} {p_far : Nat → Int32} {p_drain : Nat → Int32} {p_length : Nat → Int32} {p_words : Nat → Int32} {p_home : Nat → Int32} {n1 : Int32} {r : Int32} (h : f_X4_readersAt s_place p_readers n1 = some r) : Mt J yX4_readersAt cX4_readersAt 5 (some .int) rm_X4_readersAt [.ref (a0 0), .ref (a1 0), .int n1] (cs_X4 J.2.2.1 a0 s_year s_wet s_lost s_eaten s_tied s_ripeMany s_gone s_place s_heard s_many s_lying s_ripe ++ cs_X2 J.2.2.1 a1 p_beds p_letters p_readers p_far p_drain p_length p_words p_home) (some (.int r)) (cs_X4 J.2.2.1 a0 s_year s_wet s_lost s_eaten s_tied s_ripeMany s_gone s_place s_heard s_many s_lying s_ripe ++ cs_X2 J.2.2.1 a1 p_beds p_letters p_readers p_far p_drain p_length p_words p_home) := by
  refine Mt_of (own := RX4) (by decide) rfl (Nat.le_of_ble_eq_true rfl) rfl (fun Z C E => ?_)
  unfold f_X4_readersAt at h
  show G J Z 0 0 (cs_X4 J.2.2.1 a0 s_year s_wet s_lost s_eaten s_tied s_ripeMany s_gone s_place s_heard s_many s_lying s_ripe ++ cs_X2 J.2.2.1 a1 p_beds p_letters p_readers p_far p_drain p_length p_words p_home) 5 [(0, .ref (a0 0)), (1, .ref (a1 0)), (2, .int n1)] 0 []
  refine g_iconst (pc := 0) C dX4_readersAt_0 ci_0 ?_
  refine g_istore_n (pc := 1) C [(3, .int 0), (0, .ref (a0 0)), (1, .ref (a1 0)), (2, .int n1)] dX4_readersAt_1 rfl (by decide) rfl ?_
  refine g_iconst (pc := 2) C dX4_readersAt_2 ci_0 ?_
  refine g_istore (pc := 3) C [(4, .int 0), (3, .int 0), (0, .ref (a0 0)), (1, .ref (a1 0)), (2, .int n1)] dX4_readersAt_3 (by decide) rfl ?_
  refine g_lv [2, 3, 4, 1, 0] rfl ?_
  exact j_X4_readersAt_5 C E    FU 0 0 h
noncomputable def f_X4_heardByAny_4  (s_heard : Nat → Int32) (p_readers : Int32) : Nat → Int32 → Int32 → Option (Int32)
  | 0, _, _ => none
  | n + 1, x2, x3 => if p_readers ≤ x3 then some x2 else if ixb x3 5 then f_X4_heardByAny_4 s_heard p_readers n (x2 ||| (s_heard x3.toNatClampNeg)) (x3 + 1) else none
noncomputable def f_X4_heardByAny (s_heard : Nat → Int32) (p_readers : Int32) : Option (Int32) := f_X4_heardByAny_4 s_heard p_readers FU 0 0
def rm_X4_heardByAny : Room := { frames := 0, cells := 0, slots := 0, locals := 0 }
set_option maxRecDepth 100000 in
set_option maxHeartbeats 4000000 in
theorem j_X4_heardByAny_4 {J : Jt} {Z : Zt} {a0 : Nat → Nat} {a1 : Nat → Nat} {s_year : Int32} {s_wet : Int32} {s_lost : Int32} {s_eaten : Int32} {s_tied : Int32} {s_ripeMany : Int32} {s_gone : Nat → Int32} {s_place : Nat → Int32} {s_heard : Nat → Int32} {s_many : Nat → Int32} {s_lying : Nat → Int32} {s_ripe : Nat → Int32} {p_beds : Int32} {p_letters : Int32} {p_readers : Int32} {p_far : Nat → Int32} {p_drain : Nat → Int32} {p_length : Nat → Int32} {p_words : Nat → Int32} {p_home : Nat → Int32} {r : Int32} (C : Cx J Z cX4_heardByAny 4 RX4 (some .int) rm_X4_heardByAny) (E : Ez J Z 0 0 (some (.int r)) (cs_X4 J.2.2.1 a0 s_year s_wet s_lost s_eaten s_tied s_ripeMany s_gone s_place s_heard s_many s_lying s_ripe ++ cs_X2 J.2.2.1 a1 p_beds p_letters p_readers p_far p_drain p_length p_words p_home)) : ∀ (n : Nat) (x2 : Int32) (x3 : Int32), f_X4_heardByAny_4 s_heard p_readers n x2 x3 = some r → G J Z 0 0 (cs_X4 J.2.2.1 a0 s_year s_wet s_lost s_eaten s_tied s_ripeMany s_gone s_place s_heard s_many s_lying s_ripe ++ cs_X2 J.2.2.1 a1 p_beds p_letters p_readers p_far p_drain p_length p_words p_home) 4 [(0, .ref (a0 0)), (1, .ref (a1 0)), (2, .int x2), (3, .int x3)] 4 [] := by
  intro n
  induction n with
  | zero =>
    intro x2 x3 h
    rw [f_X4_heardByAny_4] at h
    cases h
  | succ n ih =>
    intro x2 x3 h
    rw [f_X4_heardByAny_4] at h
    refine g_iload_n (pc := 4) C 3 rfl dX4_heardByAny_4 ?_
    refine g_aload_n (pc := 5) C 1 rfl dX4_heardByAny_5 ?_
    refine g_get (pc := 6) C FOK_X2 7 rfl rfl 2 (by decide) kw_290 rfl dX4_heardByAny_6 ?_
    refine g_icmp_ge (pc := 9) C (tgt := 27) dX4_heardByAny_9 rfl h (fun h => ?_) (fun h => ?_)
    · refine g_iload_n (pc := 27) C 2 rfl dX4_heardByAny_27 ?_
      cases h
      exact g_iret C E dX4_heardByAny_28
    · refine g_iload_n (pc := 12) C 2 rfl dX4_heardByAny_12 ?_
      refine g_aload_n (pc := 13) C 0 rfl dX4_heardByAny_13 ?_
      refine g_get (pc := 14) C FOK_X4 0 rfl rfl 8 (by decide) kw_170 rfl dX4_heardByAny_14 ?_
      refine g_iload_n (pc := 17) C 3 rfl dX4_heardByAny_17 ?_
      obtain ⟨hi, h⟩ := ix_of h
      refine g_iald (pc := 18) C 3 rfl hi dX4_heardByAny_18 ?_
      refine g_ior (pc := 19) C dX4_heardByAny_19 ?_
      refine g_istore_n (pc := 20) C [(2, .int (x2 ||| (s_heard x3.toNatClampNeg))), (0, .ref (a0 0)), (1, .ref (a1 0)), (3, .int x3)] dX4_heardByAny_20 rfl (by decide) rfl ?_
      refine g_iinc (pc := 21) C (j := 3) [(3, .int (x3 + 1)), (2, .int (x2 ||| (s_heard x3.toNatClampNeg))), (0, .ref (a0 0)), (1, .ref (a1 0))] dX4_heardByAny_21 rfl (ii_1 _) (by decide) rfl ?_
      refine g_goto (pc := 24) C (tgt := 4) dX4_heardByAny_24 rfl ?_
      refine g_lv [2, 3, 1, 0] rfl ?_
      exact ih (x2 ||| (s_heard x3.toNatClampNeg)) (x3 + 1) h
set_option maxRecDepth 100000 in
set_option maxHeartbeats 4000000 in
theorem t_X4_heardByAny {J : Jt} {a0 : Nat → Nat} {a1 : Nat → Nat} {s_year : Int32} {s_wet : Int32} {s_lost : Int32} {s_eaten : Int32} {s_tied : Int32} {s_ripeMany : Int32} {s_gone : Nat → Int32} {s_place : Nat → Int32} {s_heard : Nat → Int32} {s_many : Nat → Int32} {s_lying : Nat → Int32} {s_ripe : Nat → Int32} {p_beds : Int32} {p_letters : Int32} {p_readers : Int32} {p_far : Nat → Int32} {p_drain : Nat → Int32} {p_length : Nat → Int32} {p_words : Nat → Int32} {p_home : Nat → Int32} {r : Int32} (h : f_X4_heardByAny s_heard p_readers = some r) : Mt J yX4_heardByAny cX4_heardByAny 4 (some .int) rm_X4_heardByAny [.ref (a0 0), .ref (a1 0)] (cs_X4 J.2.2.1 a0 s_year s_wet s_lost s_eaten s_tied s_ripeMany s_gone s_place s_heard s_many s_lying s_ripe ++ cs_X2 J.2.2.1 a1 p_beds p_letters p_readers p_far p_drain p_length p_words p_home) (some (.int r)) (cs_X4 J.2.2.1 a0 s_year s_wet s_lost s_eaten s_tied s_ripeMany s_gone s_place s_heard s_many s_lying s_ripe ++ cs_X2 J.2.2.1 a1 p_beds p_letters p_readers p_far p_drain p_length p_words p_home) := by
  refine Mt_of (own := RX4) (by decide) rfl (Nat.le_of_ble_eq_true rfl) rfl (fun Z C E => ?_)
  unfold f_X4_heardByAny at h
  show G J Z 0 0 (cs_X4 J.2.2.1 a0 s_year s_wet s_lost s_eaten s_tied s_ripeMany s_gone s_place s_heard s_many s_lying s_ripe ++ cs_X2 J.2.2.1 a1 p_beds p_letters p_readers p_far p_drain p_length p_words p_home) 4 [(0, .ref (a0 0)), (1, .ref (a1 0))] 0 []
  refine g_iconst (pc := 0) C dX4_heardByAny_0 ci_0 ?_
  refine g_istore_n (pc := 1) C [(2, .int 0), (0, .ref (a0 0)), (1, .ref (a1 0))] dX4_heardByAny_1 rfl (by decide) rfl ?_
  refine g_iconst (pc := 2) C dX4_heardByAny_2 ci_0 ?_
  refine g_istore_n (pc := 3) C [(3, .int 0), (2, .int 0), (0, .ref (a0 0)), (1, .ref (a1 0))] dX4_heardByAny_3 rfl (by decide) rfl ?_
  refine g_lv [2, 3, 1, 0] rfl ?_
  exact j_X4_heardByAny_4 C E    FU 0 0 h
noncomputable def f_X4_wetBy (s_wet : Int32) (n1 : Int32) : Option (Int32) := some (imin 99 (s_wet + n1))
def rm_X4_wetBy : Room := { frames := 1, cells := 0, slots := 0, locals := 40 }
set_option maxRecDepth 100000 in
set_option maxHeartbeats 4000000 in
theorem t_X4_wetBy {J : Jt} {a0 : Nat → Nat} {s_year : Int32} {s_wet : Int32} {s_lost : Int32} {s_eaten : Int32} {s_tied : Int32} {s_ripeMany : Int32} {s_gone : Nat → Int32} {s_place : Nat → Int32} {s_heard : Nat → Int32} {s_many : Nat → Int32} {s_lying : Nat → Int32} {s_ripe : Nat → Int32} {n1 : Int32} {r : Int32} (h : f_X4_wetBy s_wet n1 = some r) : Mt J yX4_wetBy cX4_wetBy 2 (some .int) rm_X4_wetBy [.ref (a0 0), .int n1] (cs_X4 J.2.2.1 a0 s_year s_wet s_lost s_eaten s_tied s_ripeMany s_gone s_place s_heard s_many s_lying s_ripe) (some (.int r)) (cs_X4 J.2.2.1 a0 s_year s_wet s_lost s_eaten s_tied s_ripeMany s_gone s_place s_heard s_many s_lying s_ripe) := by
  refine Mt_of (own := RX4) (by decide) rfl (Nat.le_of_ble_eq_true rfl) rfl (fun Z C E => ?_)
  unfold f_X4_wetBy at h
  show G J Z 0 0 (cs_X4 J.2.2.1 a0 s_year s_wet s_lost s_eaten s_tied s_ripeMany s_gone s_place s_heard s_many s_lying s_ripe) 2 [(0, .ref (a0 0)), (1, .int n1)] 0 []
  refine g_bipush (pc := 0) C dX4_wetBy_0 cb_99 ?_
  refine g_aload_n (pc := 2) C 0 rfl dX4_wetBy_2 ?_
  refine g_get (pc := 3) C FOK_X4 0 rfl rfl 1 (by decide) kw_157 rfl dX4_wetBy_3 ?_
  refine g_iload_n (pc := 6) C 1 rfl dX4_wetBy_6 ?_
  refine g_iadd (pc := 7) C dX4_wetBy_7 ?_
  refine g_imin (pc := 8) C kw_889 kw_543 kw_96 kw_544 (Nat.le_of_ble_eq_true rfl) (Nat.le_of_ble_eq_true rfl) (Nat.le_of_ble_eq_true rfl) (Nat.le_of_ble_eq_true rfl) dX4_wetBy_8 ?_
  cases h
  exact g_iret C E dX4_wetBy_11
noncomputable def f_X4_runOf (s_year : Int32) (s_gone : Nat → Int32) (s_many : Nat → Int32) (p_far : Nat → Int32) (p_drain : Nat → Int32) (p_length : Nat → Int32) (l_code : Nat → Int32) (l_values : Nat → Int32) (l_stack : Nat → Int32) (l_length : Int32) (n1 : Int32) (n2 : Int32) (n3 : Int32) : Option (Int32 × (Nat → Int32) × (Nat → Int32)) := b1 (f_X4_leftOf s_gone p_length n1) (fun v1 => if ixb n1 6 then if ixb (p_drain n1.toNatClampNeg) 6 then if ixb (p_drain n1.toNatClampNeg) 6 then b3 (f_X1_tells l_code l_values l_stack l_length n2 n3 v1 (p_far (p_drain n1.toNatClampNeg).toNatClampNeg) (s_many (p_drain n1.toNatClampNeg).toNatClampNeg) s_year n1) (fun v2 c3 c4 => some (imin v1 v2, c3, c4)) else none else none else none)
def rm_X4_runOf : Room := { frames := 2, cells := 0, slots := 0, locals := 52 }
set_option maxRecDepth 100000 in
set_option maxHeartbeats 4000000 in
theorem t_X4_runOf {J : Jt} {a0 : Nat → Nat} {a1 : Nat → Nat} {a2 : Nat → Nat} {s_year : Int32} {s_wet : Int32} {s_lost : Int32} {s_eaten : Int32} {s_tied : Int32} {s_ripeMany : Int32} {s_gone : Nat → Int32} {s_place : Nat → Int32} {s_heard : Nat → Int32} {s_many : Nat → Int32} {s_lying : Nat → Int32} {s_ripe : Nat → Int32} {p_beds : Int32} {p_letters : Int32} {p_readers : Int32} {p_far : Nat → Int32} {p_drain : Nat → Int32} {p_length : Nat → Int32} {p_words : Nat → Int32} {p_home : Nat → Int32} {l_code : Nat → Int32} {l_values : Nat → Int32} {l_stack : Nat → Int32} {l_length : Int32} {n1 : Int32} {n2 : Int32} {n3 : Int32} {r : Int32} {o_l_values : Nat → Int32} {o_l_stack : Nat → Int32} (h : f_X4_runOf s_year s_gone s_many p_far p_drain p_length l_code l_values l_stack l_length n1 n2 n3 = some (r, o_l_values, o_l_stack)) : Mt J yX4_runOf cX4_runOf 9 (some .int) rm_X4_runOf [.ref (a0 0), .ref (a1 0), .ref (a2 0), .int n1, .int n2, .int n3] (cs_X4 J.2.2.1 a0 s_year s_wet s_lost s_eaten s_tied s_ripeMany s_gone s_place s_heard s_many s_lying s_ripe ++ cs_X2 J.2.2.1 a1 p_beds p_letters p_readers p_far p_drain p_length p_words p_home ++ cs_X1 J.2.2.1 a2 l_code l_values l_stack l_length) (some (.int r)) (cs_X4 J.2.2.1 a0 s_year s_wet s_lost s_eaten s_tied s_ripeMany s_gone s_place s_heard s_many s_lying s_ripe ++ cs_X2 J.2.2.1 a1 p_beds p_letters p_readers p_far p_drain p_length p_words p_home ++ cs_X1 J.2.2.1 a2 l_code o_l_values o_l_stack l_length) := by
  refine Mt_of (own := RX4) (by decide) rfl (Nat.le_of_ble_eq_true rfl) rfl (fun Z C E => ?_)
  unfold f_X4_runOf at h
  show G J Z 0 0 (cs_X4 J.2.2.1 a0 s_year s_wet s_lost s_eaten s_tied s_ripeMany s_gone s_place s_heard s_many s_lying s_ripe ++ cs_X2 J.2.2.1 a1 p_beds p_letters p_readers p_far p_drain p_length p_words p_home ++ cs_X1 J.2.2.1 a2 l_code l_values l_stack l_length) 9 [(0, .ref (a0 0)), (1, .ref (a1 0)), (2, .ref (a2 0)), (3, .int n1), (4, .int n2), (5, .int n3)] 0 []
  refine g_aload_n (pc := 0) C 0 rfl dX4_runOf_0 ?_
  refine g_aload_n (pc := 1) C 1 rfl dX4_runOf_1 ?_
  refine g_iload_n (pc := 2) C 3 rfl dX4_runOf_2 ?_
  obtain ⟨v1, hc, h⟩ := b1_of h
  refine g_callV (pc := 3) C (w' := cs_X4 J.2.2.1 a0 s_year s_wet s_lost s_eaten s_tied s_ripeMany s_gone s_place s_heard s_many s_lying s_ripe ++ cs_X2 J.2.2.1 a1 p_beds p_letters p_readers p_far p_drain p_length p_words p_home ++ cs_X1 J.2.2.1 a2 l_code l_values l_stack l_length) (As := [.ref (a1 0), .int n1]) (st := []) (ci := 4) (q0 := 0) rfl rfl (t_X4_leftOf (a0 := a0) (a1 := a1) hc) (Sub.gen [0, 1, 2, 3, 4, 5, 6, 7, 8, 9, 10, 11, 12] [13, 14, 15, 16] [4, 5, 6, 7, 8, 9, 10, 11, 12, 13, 14, 15, 16, 0, 1, 2, 3] rfl (by decide) rfl (by decide) (by decide) rfl (by decide)) kw_476 kw_465 kw_466 kw_88 hy_X4_leftOf kw_467 rfl (Nat.le_of_ble_eq_true rfl) (Nat.le_of_ble_eq_true rfl) (Nat.le_of_ble_eq_true rfl) (Nat.le_of_ble_eq_true rfl) (Nat.le_of_ble_eq_true rfl) dX4_runOf_3 ?_
  refine g_istore (pc := 6) C [(6, .int v1), (0, .ref (a0 0)), (1, .ref (a1 0)), (2, .ref (a2 0)), (3, .int n1), (4, .int n2), (5, .int n3)] dX4_runOf_6 (by decide) rfl ?_
  refine g_aload_n (pc := 8) C 2 rfl dX4_runOf_8 ?_
  refine g_get (pc := 9) C FOK_X2 7 rfl rfl 4 (by decide) kw_296 rfl dX4_runOf_9 ?_
  refine g_iload_n (pc := 12) C 4 rfl dX4_runOf_12 ?_
  obtain ⟨hi, h⟩ := ix_of h
  refine g_iald (pc := 13) C 9 rfl hi dX4_runOf_13 ?_
  refine g_istore (pc := 14) C [(7, .int (p_drain n1.toNatClampNeg)), (6, .int v1), (0, .ref (a0 0)), (1, .ref (a1 0)), (2, .ref (a2 0)), (3, .int n1), (4, .int n2), (5, .int n3)] dX4_runOf_14 (by decide) rfl ?_
  refine g_aload_n (pc := 16) C 4 rfl dX4_runOf_16 ?_
  refine g_iload (pc := 17) C 6 rfl dX4_runOf_17 ?_
  refine g_iload (pc := 19) C 7 rfl dX4_runOf_19 ?_
  refine g_iload (pc := 21) C 1 rfl dX4_runOf_21 ?_
  refine g_aload_n (pc := 23) C 3 rfl dX4_runOf_23 ?_
  refine g_get (pc := 24) C FOK_X2 7 rfl rfl 3 (by decide) kw_293 rfl dX4_runOf_24 ?_
  refine g_iload (pc := 27) C 0 rfl dX4_runOf_27 ?_
  obtain ⟨hi, h⟩ := ix_of h
  refine g_iald (pc := 29) C 8 rfl hi dX4_runOf_29 ?_
  refine g_aload_n (pc := 30) C 2 rfl dX4_runOf_30 ?_
  refine g_get (pc := 31) C FOK_X4 0 rfl rfl 9 (by decide) kw_172 rfl dX4_runOf_31 ?_
  refine g_iload (pc := 34) C 0 rfl dX4_runOf_34 ?_
  obtain ⟨hi, h⟩ := ix_of h
  refine g_iald (pc := 36) C 4 rfl hi dX4_runOf_36 ?_
  refine g_aload_n (pc := 37) C 2 rfl dX4_runOf_37 ?_
  refine g_get (pc := 38) C FOK_X4 0 rfl rfl 0 (by decide) kw_154 rfl dX4_runOf_38 ?_
  refine g_iload_n (pc := 41) C 5 rfl dX4_runOf_41 ?_
  obtain ⟨v2, c3, c4, hc, h⟩ := b3_of h
  refine g_callV (pc := 42) C (w' := cs_X4 J.2.2.1 a0 s_year s_wet s_lost s_eaten s_tied s_ripeMany s_gone s_place s_heard s_many s_lying s_ripe ++ cs_X2 J.2.2.1 a1 p_beds p_letters p_readers p_far p_drain p_length p_words p_home ++ cs_X1 J.2.2.1 a2 l_code c3 c4 l_length) (As := [.int n2, .int n3, .int v1, .int (p_far (p_drain n1.toNatClampNeg).toNatClampNeg), .int (s_many (p_drain n1.toNatClampNeg).toNatClampNeg), .int s_year, .int n1]) (st := []) (ci := 1) (q0 := 13) rfl rfl (t_X1_tells (a0 := a2) hc) (Sub.gen [13, 14, 15, 16] [0, 1, 2, 3, 4, 5, 6, 7, 8, 9, 10, 11, 12] [0, 1, 2, 3, 4, 5, 6, 7, 8, 9, 10, 11, 12, 13, 14, 15, 16] rfl (by decide) rfl (by decide) (by decide) rfl (by decide)) kw_899 kw_900 kw_901 kw_93 hy_X1_tells kw_902 rfl (Nat.le_of_ble_eq_true rfl) (Nat.le_of_ble_eq_true rfl) (Nat.le_of_ble_eq_true rfl) (Nat.le_of_ble_eq_true rfl) (Nat.le_of_ble_eq_true rfl) dX4_runOf_42 ?_
  refine g_istore (pc := 45) C [(8, .int v2), (7, .int (p_drain n1.toNatClampNeg)), (6, .int v1), (0, .ref (a0 0)), (1, .ref (a1 0)), (2, .ref (a2 0)), (3, .int n1), (4, .int n2), (5, .int n3)] dX4_runOf_45 (by decide) rfl ?_
  refine g_iload (pc := 47) C 2 rfl dX4_runOf_47 ?_
  refine g_iload (pc := 49) C 0 rfl dX4_runOf_49 ?_
  refine g_imin (pc := 51) C kw_889 kw_543 kw_96 kw_544 (Nat.le_of_ble_eq_true rfl) (Nat.le_of_ble_eq_true rfl) (Nat.le_of_ble_eq_true rfl) (Nat.le_of_ble_eq_true rfl) dX4_runOf_51 ?_
  cases h
  exact g_iret C E dX4_runOf_54
noncomputable def f_X4_toldBy_23  (s_gone : Nat → Int32) (s_place : Nat → Int32) (p_letters : Int32) (p_far : Nat → Int32) (p_length : Nat → Int32) (p_words : Nat → Int32) (n1 : Int32) (n2 : Int32) : Nat → Int32 → Int32 → Option (Int32)
  | 0, _, _ => none
  | n + 1, x4, x5 => if p_letters ≤ x5 then some x4 else b1 (f_X4_leftOf s_gone p_length x5) (fun v1 => if v1 ≤ 0 then f_X4_toldBy_23 s_gone s_place p_letters p_far p_length p_words n1 n2 n (x4 ||| 0) (x5 + 1) else b1 (f_X4_nextOf s_gone p_length p_words x5) (fun v2 => f_X4_toldBy_23 s_gone s_place p_letters p_far p_length p_words n1 n2 n (x4 ||| ((1 : Int32) <<< (v2 &&& 31))) (x5 + 1)))
noncomputable def f_X4_toldBy (s_gone : Nat → Int32) (s_place : Nat → Int32) (p_letters : Int32) (p_far : Nat → Int32) (p_length : Nat → Int32) (p_words : Nat → Int32) (n1 : Int32) (n2 : Int32) : Option (Int32) := if ixb n1 5 then if ixb (s_place n1.toNatClampNeg) 6 then if (p_far (s_place n1.toNatClampNeg).toNatClampNeg) ≤ n2 then f_X4_toldBy_23 s_gone s_place p_letters p_far p_length p_words n1 n2 FU 0 0 else some 0 else none else none
def rm_X4_toldBy : Room := { frames := 2, cells := 0, slots := 0, locals := 44 }
set_option maxRecDepth 100000 in
set_option maxHeartbeats 4000000 in
theorem j_X4_toldBy_23 {J : Jt} {Z : Zt} {a0 : Nat → Nat} {a1 : Nat → Nat} {s_year : Int32} {s_wet : Int32} {s_lost : Int32} {s_eaten : Int32} {s_tied : Int32} {s_ripeMany : Int32} {s_gone : Nat → Int32} {s_place : Nat → Int32} {s_heard : Nat → Int32} {s_many : Nat → Int32} {s_lying : Nat → Int32} {s_ripe : Nat → Int32} {p_beds : Int32} {p_letters : Int32} {p_readers : Int32} {p_far : Nat → Int32} {p_drain : Nat → Int32} {p_length : Nat → Int32} {p_words : Nat → Int32} {p_home : Nat → Int32} {n1 : Int32} {n2 : Int32} {r : Int32} (C : Cx J Z cX4_toldBy 6 RX4 (some .int) rm_X4_toldBy) (E : Ez J Z 0 0 (some (.int r)) (cs_X4 J.2.2.1 a0 s_year s_wet s_lost s_eaten s_tied s_ripeMany s_gone s_place s_heard s_many s_lying s_ripe ++ cs_X2 J.2.2.1 a1 p_beds p_letters p_readers p_far p_drain p_length p_words p_home)) : ∀ (n : Nat) (x4 : Int32) (x5 : Int32), f_X4_toldBy_23 s_gone s_place p_letters p_far p_length p_words n1 n2 n x4 x5 = some r → G J Z 0 0 (cs_X4 J.2.2.1 a0 s_year s_wet s_lost s_eaten s_tied s_ripeMany s_gone s_place s_heard s_many s_lying s_ripe ++ cs_X2 J.2.2.1 a1 p_beds p_letters p_readers p_far p_drain p_length p_words p_home) 6 [(0, .ref (a0 0)), (1, .ref (a1 0)), (4, .int x4), (5, .int x5)] 23 [] := by
  intro n
  induction n with
  | zero =>
    intro x4 x5 h
    rw [f_X4_toldBy_23] at h
    cases h
  | succ n ih =>
    intro x4 x5 h
    rw [f_X4_toldBy_23] at h
    refine g_iload (pc := 23) C 3 rfl dX4_toldBy_23 ?_
    refine g_aload_n (pc := 25) C 1 rfl dX4_toldBy_25 ?_
    refine g_get (pc := 26) C FOK_X2 7 rfl rfl 1 (by decide) kw_285 rfl dX4_toldBy_26 ?_
    refine g_icmp_ge (pc := 29) C (tgt := 66) dX4_toldBy_29 rfl h (fun h => ?_) (fun h => ?_)
    · refine g_iload (pc := 66) C 2 rfl dX4_toldBy_66 ?_
      cases h
      exact g_iret C E dX4_toldBy_68
    · refine g_iload (pc := 32) C 2 rfl dX4_toldBy_32 ?_
      refine g_aload_n (pc := 34) C 0 rfl dX4_toldBy_34 ?_
      refine g_aload_n (pc := 35) C 1 rfl dX4_toldBy_35 ?_
      refine g_iload (pc := 36) C 3 rfl dX4_toldBy_36 ?_
      obtain ⟨v1, hc, h⟩ := b1_of h
      refine g_callV (pc := 38) C (w' := cs_X4 J.2.2.1 a0 s_year s_wet s_lost s_eaten s_tied s_ripeMany s_gone s_place s_heard s_many s_lying s_ripe ++ cs_X2 J.2.2.1 a1 p_beds p_letters p_readers p_far p_drain p_length p_words p_home) (As := [.ref (a1 0), .int x5]) (st := [.int x4]) (ci := 4) (q0 := 0) rfl rfl (t_X4_leftOf (a0 := a0) (a1 := a1) hc) Sub.same kw_476 kw_465 kw_466 kw_88 hy_X4_leftOf kw_467 rfl (Nat.le_of_ble_eq_true rfl) (Nat.le_of_ble_eq_true rfl) (Nat.le_of_ble_eq_true rfl) (Nat.le_of_ble_eq_true rfl) (Nat.le_of_ble_eq_true rfl) dX4_toldBy_38 ?_
      refine g_if_le (pc := 41) C (tgt := 56) dX4_toldBy_41 rfl h (fun h => ?_) (fun h => ?_)
      · refine g_iconst (pc := 56) C dX4_toldBy_56 ci_0 ?_
        refine g_ior (pc := 57) C dX4_toldBy_57 ?_
        refine g_istore (pc := 58) C [(4, .int (x4 ||| 0)), (0, .ref (a0 0)), (1, .ref (a1 0)), (5, .int x5)] dX4_toldBy_58 (by decide) rfl ?_
        refine g_iinc (pc := 60) C (j := 3) [(5, .int (x5 + 1)), (4, .int (x4 ||| 0)), (0, .ref (a0 0)), (1, .ref (a1 0))] dX4_toldBy_60 rfl (ii_1 _) (by decide) rfl ?_
        refine g_goto (pc := 63) C (tgt := 23) dX4_toldBy_63 rfl ?_
        refine g_lv [2, 3, 1, 0] rfl ?_
        exact ih (x4 ||| 0) (x5 + 1) h
      · refine g_iconst (pc := 44) C dX4_toldBy_44 ci_1 ?_
        refine g_aload_n (pc := 45) C 0 rfl dX4_toldBy_45 ?_
        refine g_aload_n (pc := 46) C 1 rfl dX4_toldBy_46 ?_
        refine g_iload (pc := 47) C 3 rfl dX4_toldBy_47 ?_
        obtain ⟨v2, hc, h⟩ := b1_of h
        refine g_callV (pc := 49) C (w' := cs_X4 J.2.2.1 a0 s_year s_wet s_lost s_eaten s_tied s_ripeMany s_gone s_place s_heard s_many s_lying s_ripe ++ cs_X2 J.2.2.1 a1 p_beds p_letters p_readers p_far p_drain p_length p_words p_home) (As := [.ref (a1 0), .int x5]) (st := [.int 1, .int x4]) (ci := 4) (q0 := 0) rfl rfl (t_X4_nextOf (a0 := a0) (a1 := a1) hc) Sub.same kw_864 kw_473 kw_474 kw_88 hy_X4_nextOf kw_475 rfl (Nat.le_of_ble_eq_true rfl) (Nat.le_of_ble_eq_true rfl) (Nat.le_of_ble_eq_true rfl) (Nat.le_of_ble_eq_true rfl) (Nat.le_of_ble_eq_true rfl) dX4_toldBy_49 ?_
        refine g_ishl (pc := 52) C dX4_toldBy_52 ?_
        refine g_goto (pc := 53) C (tgt := 57) dX4_toldBy_53 rfl ?_
        refine g_ior (pc := 57) C dX4_toldBy_57 ?_
        refine g_istore (pc := 58) C [(4, .int (x4 ||| ((1 : Int32) <<< (v2 &&& 31)))), (0, .ref (a0 0)), (1, .ref (a1 0)), (5, .int x5)] dX4_toldBy_58 (by decide) rfl ?_
        refine g_iinc (pc := 60) C (j := 3) [(5, .int (x5 + 1)), (4, .int (x4 ||| ((1 : Int32) <<< (v2 &&& 31)))), (0, .ref (a0 0)), (1, .ref (a1 0))] dX4_toldBy_60 rfl (ii_1 _) (by decide) rfl ?_
        refine g_goto (pc := 63) C (tgt := 23) dX4_toldBy_63 rfl ?_
        refine g_lv [2, 3, 1, 0] rfl ?_
        exact ih (x4 ||| ((1 : Int32) <<< (v2 &&& 31))) (x5 + 1) h
set_option maxRecDepth 100000 in
set_option maxHeartbeats 4000000 in
theorem t_X4_toldBy {J : Jt} {a0 : Nat → Nat} {a1 : Nat → Nat} {s_year : Int32} {s_wet : Int32} {s_lost : Int32} {s_eaten : Int32} {s_tied : Int32} {s_ripeMany : Int32} {s_gone : Nat → Int32} {s_place : Nat → Int32} {s_heard : Nat → Int32} {s_many : Nat → Int32} {s_lying : Nat → Int32} {s_ripe : Nat → Int32} {p_beds : Int32} {p_letters : Int32} {p_readers : Int32} {p_far : Nat → Int32} {p_drain : Nat → Int32} {p_length : Nat → Int32} {p_words : Nat → Int32} {p_home : Nat → Int32} {n1 : Int32} {n2 : Int32} {r : Int32} (h : f_X4_toldBy s_gone s_place p_letters p_far p_length p_words n1 n2 = some r) : Mt J yX4_toldBy cX4_toldBy 6 (some .int) rm_X4_toldBy [.ref (a0 0), .ref (a1 0), .int n1, .int n2] (cs_X4 J.2.2.1 a0 s_year s_wet s_lost s_eaten s_tied s_ripeMany s_gone s_place s_heard s_many s_lying s_ripe ++ cs_X2 J.2.2.1 a1 p_beds p_letters p_readers p_far p_drain p_length p_words p_home) (some (.int r)) (cs_X4 J.2.2.1 a0 s_year s_wet s_lost s_eaten s_tied s_ripeMany s_gone s_place s_heard s_many s_lying s_ripe ++ cs_X2 J.2.2.1 a1 p_beds p_letters p_readers p_far p_drain p_length p_words p_home) := by
  refine Mt_of (own := RX4) (by decide) rfl (Nat.le_of_ble_eq_true rfl) rfl (fun Z C E => ?_)
  unfold f_X4_toldBy at h
  show G J Z 0 0 (cs_X4 J.2.2.1 a0 s_year s_wet s_lost s_eaten s_tied s_ripeMany s_gone s_place s_heard s_many s_lying s_ripe ++ cs_X2 J.2.2.1 a1 p_beds p_letters p_readers p_far p_drain p_length p_words p_home) 6 [(0, .ref (a0 0)), (1, .ref (a1 0)), (2, .int n1), (3, .int n2)] 0 []
  refine g_aload_n (pc := 0) C 1 rfl dX4_toldBy_0 ?_
  refine g_get (pc := 1) C FOK_X2 7 rfl rfl 3 (by decide) kw_293 rfl dX4_toldBy_1 ?_
  refine g_aload_n (pc := 4) C 0 rfl dX4_toldBy_4 ?_
  refine g_get (pc := 5) C FOK_X4 0 rfl rfl 7 (by decide) kw_168 rfl dX4_toldBy_5 ?_
  refine g_iload_n (pc := 8) C 2 rfl dX4_toldBy_8 ?_
  obtain ⟨hi, h⟩ := ix_of h
  refine g_iald (pc := 9) C 2 rfl hi dX4_toldBy_9 ?_
  obtain ⟨hi, h⟩ := ix_of h
  refine g_iald (pc := 10) C 8 rfl hi dX4_toldBy_10 ?_
  refine g_iload_n (pc := 11) C 3 rfl dX4_toldBy_11 ?_
  refine g_icmp_le (pc := 12) C (tgt := 17) dX4_toldBy_12 rfl h (fun h => ?_) (fun h => ?_)
  · refine g_iconst (pc := 17) C dX4_toldBy_17 ci_0 ?_
    refine g_istore (pc := 18) C [(4, .int 0), (0, .ref (a0 0)), (1, .ref (a1 0)), (2, .int n1), (3, .int n2)] dX4_toldBy_18 (by decide) rfl ?_
    refine g_iconst (pc := 20) C dX4_toldBy_20 ci_0 ?_
    refine g_istore (pc := 21) C [(5, .int 0), (4, .int 0), (0, .ref (a0 0)), (1, .ref (a1 0)), (2, .int n1), (3, .int n2)] dX4_toldBy_21 (by decide) rfl ?_
    refine g_lv [2, 3, 1, 0] rfl ?_
    exact j_X4_toldBy_23 C E    FU 0 0 h
  · refine g_iconst (pc := 15) C dX4_toldBy_15 ci_0 ?_
    cases h
    exact g_iret C E dX4_toldBy_16
noncomputable def f_X4_blow_48  (s_gone : Nat → Int32) (s_place : Nat → Int32) (p_letters : Int32) (p_readers : Int32) (p_far : Nat → Int32) (p_length : Nat → Int32) (p_words : Nat → Int32) (n1 : Int32) (k5 : Int32 → Int32 → (Nat → Int32) → Option (Int32 × (Nat → Int32))) (x4 : Int32) (x5 : Int32) (y0 : Int32) (s_heard : Nat → Int32) : Option (Int32 × (Nat → Int32)) := if ixb x4 5 then if ixb x4 5 then k5 y0 (x4 + 1) (upd s_heard x4.toNatClampNeg ((s_heard x4.toNatClampNeg) ||| x5)) else none else none
noncomputable def f_X4_blow_5  (s_gone : Nat → Int32) (s_place : Nat → Int32) (p_letters : Int32) (p_readers : Int32) (p_far : Nat → Int32) (p_length : Nat → Int32) (p_words : Nat → Int32) (n1 : Int32) : Nat → Int32 → Int32 → (Nat → Int32) → Option (Int32 × (Nat → Int32))
  | 0, _, _, _ => none
  | n + 1, x3, x4, s_heard => if p_readers ≤ x4 then if zok x3 then some (x3, s_heard) else none else b1 (f_X4_toldBy s_gone s_place p_letters p_far p_length p_words x4 n1) (fun v1 => if x3 = 0 then if ixb x4 5 then if (v1 &&& ((s_heard x4.toNatClampNeg) ^^^ (-1))) = 0 then f_X4_blow_48 s_gone s_place p_letters p_readers p_far p_length p_words n1 (f_X4_blow_5 s_gone s_place p_letters p_readers p_far p_length p_words n1 n) x4 v1 0 s_heard else f_X4_blow_48 s_gone s_place p_letters p_readers p_far p_length p_words n1 (f_X4_blow_5 s_gone s_place p_letters p_readers p_far p_length p_words n1 n) x4 v1 1 s_heard else none else f_X4_blow_48 s_gone s_place p_letters p_readers p_far p_length p_words n1 (f_X4_blow_5 s_gone s_place p_letters p_readers p_far p_length p_words n1 n) x4 v1 1 s_heard)
noncomputable def f_X4_blow (s_gone : Nat → Int32) (s_place : Nat → Int32) (s_heard : Nat → Int32) (p_letters : Int32) (p_readers : Int32) (p_far : Nat → Int32) (p_length : Nat → Int32) (p_words : Nat → Int32) (n1 : Int32) : Option (Int32 × (Nat → Int32)) := f_X4_blow_5 s_gone s_place p_letters p_readers p_far p_length p_words n1 FU 0 0 s_heard
def rm_X4_blow : Room := { frames := 3, cells := 0, slots := 0, locals := 69 }
set_option maxRecDepth 100000 in
set_option maxHeartbeats 4000000 in
theorem j_X4_blow_48 {J : Jt} {Z : Zt} {a0 : Nat → Nat} {a1 : Nat → Nat} {s_year : Int32} {s_wet : Int32} {s_lost : Int32} {s_eaten : Int32} {s_tied : Int32} {s_ripeMany : Int32} {s_gone : Nat → Int32} {s_place : Nat → Int32} {s_many : Nat → Int32} {s_lying : Nat → Int32} {s_ripe : Nat → Int32} {p_beds : Int32} {p_letters : Int32} {p_readers : Int32} {p_far : Nat → Int32} {p_drain : Nat → Int32} {p_length : Nat → Int32} {p_words : Nat → Int32} {p_home : Nat → Int32} {n1 : Int32} {r : Int32} {o_s_heard : Nat → Int32} {k5 : Int32 → Int32 → (Nat → Int32) → Option (Int32 × (Nat → Int32))} (C : Cx J Z cX4_blow 6 RX4 (some .boolean) rm_X4_blow) (E : Ez J Z 0 0 (some (.int r)) (cs_X4 J.2.2.1 a0 s_year s_wet s_lost s_eaten s_tied s_ripeMany s_gone s_place o_s_heard s_many s_lying s_ripe ++ cs_X2 J.2.2.1 a1 p_beds p_letters p_readers p_far p_drain p_length p_words p_home)) (hk5 : ∀ (x3 : Int32) (x4 : Int32) (s_heard : Nat → Int32), k5 x3 x4 s_heard = some (r, o_s_heard) → G J Z 0 0 (cs_X4 J.2.2.1 a0 s_year s_wet s_lost s_eaten s_tied s_ripeMany s_gone s_place s_heard s_many s_lying s_ripe ++ cs_X2 J.2.2.1 a1 p_beds p_letters p_readers p_far p_drain p_length p_words p_home) 6 [(0, .ref (a0 0)), (1, .ref (a1 0)), (2, .int n1), (3, .int x3), (4, .int x4)] 5 []) : ∀ (x4 : Int32) (x5 : Int32) (y0 : Int32) (s_heard : Nat → Int32), f_X4_blow_48 s_gone s_place p_letters p_readers p_far p_length p_words n1 k5 x4 x5 y0 s_heard = some (r, o_s_heard) → G J Z 0 0 (cs_X4 J.2.2.1 a0 s_year s_wet s_lost s_eaten s_tied s_ripeMany s_gone s_place s_heard s_many s_lying s_ripe ++ cs_X2 J.2.2.1 a1 p_beds p_letters p_readers p_far p_drain p_length p_words p_home) 6 [(0, .ref (a0 0)), (1, .ref (a1 0)), (2, .int n1), (4, .int x4), (5, .int x5)] 48 [.int y0] := by
  intro x4 x5 y0 s_heard h
  unfold f_X4_blow_48 at h
  refine g_istore_n (pc := 48) C [(3, .int y0), (0, .ref (a0 0)), (1, .ref (a1 0)), (2, .int n1), (4, .int x4), (5, .int x5)] dX4_blow_48 rfl (by decide) rfl ?_
  refine g_aload_n (pc := 49) C 1 rfl dX4_blow_49 ?_
  refine g_get (pc := 50) C FOK_X4 0 rfl rfl 8 (by decide) kw_170 rfl dX4_blow_50 ?_
  refine g_iload (pc := 53) C 4 rfl dX4_blow_53 ?_
  refine g_dup2 (pc := 55) C dX4_blow_55 rfl rfl ?_
  obtain ⟨hi, h⟩ := ix_of h
  refine g_iald (pc := 56) C 3 rfl hi dX4_blow_56 ?_
  refine g_iload (pc := 57) C 5 rfl dX4_blow_57 ?_
  refine g_ior (pc := 59) C dX4_blow_59 ?_
  obtain ⟨hi, h⟩ := ix_of h
  refine g_iast (pc := 60) C (w' := cs_X4 J.2.2.1 a0 s_year s_wet s_lost s_eaten s_tied s_ripeMany s_gone s_place (upd s_heard x4.toNatClampNeg ((s_heard x4.toNatClampNeg) ||| x5)) s_many s_lying s_ripe ++ cs_X2 J.2.2.1 a1 p_beds p_letters p_readers p_far p_drain p_length p_words p_home) 3 rfl hi dX4_blow_60 rfl ?_
  refine g_iinc (pc := 61) C (j := 4) [(4, .int (x4 + 1)), (3, .int y0), (0, .ref (a0 0)), (1, .ref (a1 0)), (2, .int n1), (5, .int x5)] dX4_blow_61 rfl (ii_1 _) (by decide) rfl ?_
  refine g_goto (pc := 64) C (tgt := 5) dX4_blow_64 rfl ?_
  refine g_lv [2, 3, 4, 1, 0] rfl ?_
  exact hk5 y0 (x4 + 1) (upd s_heard x4.toNatClampNeg ((s_heard x4.toNatClampNeg) ||| x5)) h
set_option maxRecDepth 100000 in
set_option maxHeartbeats 4000000 in
theorem j_X4_blow_5 {J : Jt} {Z : Zt} {a0 : Nat → Nat} {a1 : Nat → Nat} {s_year : Int32} {s_wet : Int32} {s_lost : Int32} {s_eaten : Int32} {s_tied : Int32} {s_ripeMany : Int32} {s_gone : Nat → Int32} {s_place : Nat → Int32} {s_many : Nat → Int32} {s_lying : Nat → Int32} {s_ripe : Nat → Int32} {p_beds : Int32} {p_letters : Int32} {p_readers : Int32} {p_far : Nat → Int32} {p_drain : Nat → Int32} {p_length : Nat → Int32} {p_words : Nat → Int32} {p_home : Nat → Int32} {n1 : Int32} {r : Int32} {o_s_heard : Nat → Int32} (C : Cx J Z cX4_blow 6 RX4 (some .boolean) rm_X4_blow) (E : Ez J Z 0 0 (some (.int r)) (cs_X4 J.2.2.1 a0 s_year s_wet s_lost s_eaten s_tied s_ripeMany s_gone s_place o_s_heard s_many s_lying s_ripe ++ cs_X2 J.2.2.1 a1 p_beds p_letters p_readers p_far p_drain p_length p_words p_home)) : ∀ (n : Nat) (x3 : Int32) (x4 : Int32) (s_heard : Nat → Int32), f_X4_blow_5 s_gone s_place p_letters p_readers p_far p_length p_words n1 n x3 x4 s_heard = some (r, o_s_heard) → G J Z 0 0 (cs_X4 J.2.2.1 a0 s_year s_wet s_lost s_eaten s_tied s_ripeMany s_gone s_place s_heard s_many s_lying s_ripe ++ cs_X2 J.2.2.1 a1 p_beds p_letters p_readers p_far p_drain p_length p_words p_home) 6 [(0, .ref (a0 0)), (1, .ref (a1 0)), (2, .int n1), (3, .int x3), (4, .int x4)] 5 [] := by
  intro n
  induction n with
  | zero =>
    intro x3 x4 s_heard h
    rw [f_X4_blow_5] at h
    cases h
  | succ n ih =>
    intro x3 x4 s_heard h
    rw [f_X4_blow_5] at h
    refine g_iload (pc := 5) C 4 rfl dX4_blow_5 ?_
    refine g_aload_n (pc := 7) C 1 rfl dX4_blow_7 ?_
    refine g_get (pc := 8) C FOK_X2 7 rfl rfl 2 (by decide) kw_290 rfl dX4_blow_8 ?_
    refine g_icmp_ge (pc := 11) C (tgt := 67) dX4_blow_11 rfl h (fun h => ?_) (fun h => ?_)
    · refine g_iload_n (pc := 67) C 3 rfl dX4_blow_67 ?_
      obtain ⟨hz, h⟩ := zok_of h
      cases h
      exact g_zret C hz E dX4_blow_68
    · refine g_aload_n (pc := 14) C 0 rfl dX4_blow_14 ?_
      refine g_aload_n (pc := 15) C 1 rfl dX4_blow_15 ?_
      refine g_iload (pc := 16) C 4 rfl dX4_blow_16 ?_
      refine g_iload_n (pc := 18) C 2 rfl dX4_blow_18 ?_
      obtain ⟨v1, hc, h⟩ := b1_of h
      refine g_callV (pc := 19) C (w' := cs_X4 J.2.2.1 a0 s_year s_wet s_lost s_eaten s_tied s_ripeMany s_gone s_place s_heard s_many s_lying s_ripe ++ cs_X2 J.2.2.1 a1 p_beds p_letters p_readers p_far p_drain p_length p_words p_home) (As := [.ref (a1 0), .int x4, .int n1]) (st := []) (ci := 4) (q0 := 0) rfl rfl (t_X4_toldBy (a0 := a0) (a1 := a1) hc) Sub.same kw_860 kw_861 kw_862 kw_88 hy_X4_toldBy kw_863 rfl (Nat.le_of_ble_eq_true rfl) (Nat.le_of_ble_eq_true rfl) (Nat.le_of_ble_eq_true rfl) (Nat.le_of_ble_eq_true rfl) (Nat.le_of_ble_eq_true rfl) dX4_blow_19 ?_
      refine g_istore (pc := 22) C [(5, .int v1), (0, .ref (a0 0)), (1, .ref (a1 0)), (2, .int n1), (3, .int x3), (4, .int x4)] dX4_blow_22 (by decide) rfl ?_
      refine g_iload_n (pc := 24) C 4 rfl dX4_blow_24 ?_
      refine g_if_ne (pc := 25) C (tgt := 43) dX4_blow_25 rfl h (fun h => ?_) (fun h => ?_)
      · refine g_iconst (pc := 43) C dX4_blow_43 ci_1 ?_
        refine g_goto (pc := 44) C (tgt := 48) dX4_blow_44 rfl ?_
        refine g_lv [1, 2, 3, 5, 0] rfl ?_
        exact j_X4_blow_48 C E   ih x4 v1 1 s_heard h
      · refine g_iload (pc := 28) C 0 rfl dX4_blow_28 ?_
        refine g_aload_n (pc := 30) C 1 rfl dX4_blow_30 ?_
        refine g_get (pc := 31) C FOK_X4 0 rfl rfl 8 (by decide) kw_170 rfl dX4_blow_31 ?_
        refine g_iload (pc := 34) C 5 rfl dX4_blow_34 ?_
        obtain ⟨hi, h⟩ := ix_of h
        refine g_iald (pc := 36) C 3 rfl hi dX4_blow_36 ?_
        refine g_iconst (pc := 37) C dX4_blow_37 ci_m1 ?_
        refine g_ixor (pc := 38) C dX4_blow_38 ?_
        refine g_iand (pc := 39) C dX4_blow_39 ?_
        refine g_if_eq (pc := 40) C (tgt := 47) dX4_blow_40 rfl h (fun h => ?_) (fun h => ?_)
        · refine g_iconst (pc := 47) C dX4_blow_47 ci_0 ?_
          refine g_lv [1, 2, 3, 5, 0] rfl ?_
          exact j_X4_blow_48 C E   ih x4 v1 0 s_heard h
        · refine g_iconst (pc := 43) C dX4_blow_43 ci_1 ?_
          refine g_goto (pc := 44) C (tgt := 48) dX4_blow_44 rfl ?_
          refine g_lv [1, 2, 3, 5, 0] rfl ?_
          exact j_X4_blow_48 C E   ih x4 v1 1 s_heard h
set_option maxRecDepth 100000 in
set_option maxHeartbeats 4000000 in
theorem t_X4_blow {J : Jt} {a0 : Nat → Nat} {a1 : Nat → Nat} {s_year : Int32} {s_wet : Int32} {s_lost : Int32} {s_eaten : Int32} {s_tied : Int32} {s_ripeMany : Int32} {s_gone : Nat → Int32} {s_place : Nat → Int32} {s_heard : Nat → Int32} {s_many : Nat → Int32} {s_lying : Nat → Int32} {s_ripe : Nat → Int32} {p_beds : Int32} {p_letters : Int32} {p_readers : Int32} {p_far : Nat → Int32} {p_drain : Nat → Int32} {p_length : Nat → Int32} {p_words : Nat → Int32} {p_home : Nat → Int32} {n1 : Int32} {r : Int32} {o_s_heard : Nat → Int32} (h : f_X4_blow s_gone s_place s_heard p_letters p_readers p_far p_length p_words n1 = some (r, o_s_heard)) : Mt J yX4_blow cX4_blow 6 (some .boolean) rm_X4_blow [.ref (a0 0), .ref (a1 0), .int n1] (cs_X4 J.2.2.1 a0 s_year s_wet s_lost s_eaten s_tied s_ripeMany s_gone s_place s_heard s_many s_lying s_ripe ++ cs_X2 J.2.2.1 a1 p_beds p_letters p_readers p_far p_drain p_length p_words p_home) (some (.int r)) (cs_X4 J.2.2.1 a0 s_year s_wet s_lost s_eaten s_tied s_ripeMany s_gone s_place o_s_heard s_many s_lying s_ripe ++ cs_X2 J.2.2.1 a1 p_beds p_letters p_readers p_far p_drain p_length p_words p_home) := by
  refine Mt_of (own := RX4) (by decide) rfl (Nat.le_of_ble_eq_true rfl) rfl (fun Z C E => ?_)
  unfold f_X4_blow at h
  show G J Z 0 0 (cs_X4 J.2.2.1 a0 s_year s_wet s_lost s_eaten s_tied s_ripeMany s_gone s_place s_heard s_many s_lying s_ripe ++ cs_X2 J.2.2.1 a1 p_beds p_letters p_readers p_far p_drain p_length p_words p_home) 6 [(0, .ref (a0 0)), (1, .ref (a1 0)), (2, .int n1)] 0 []
  refine g_iconst (pc := 0) C dX4_blow_0 ci_0 ?_
  refine g_istore_n (pc := 1) C [(3, .int 0), (0, .ref (a0 0)), (1, .ref (a1 0)), (2, .int n1)] dX4_blow_1 rfl (by decide) rfl ?_
  refine g_iconst (pc := 2) C dX4_blow_2 ci_0 ?_
  refine g_istore (pc := 3) C [(4, .int 0), (3, .int 0), (0, .ref (a0 0)), (1, .ref (a1 0)), (2, .int n1)] dX4_blow_3 (by decide) rfl ?_
  refine g_lv [2, 3, 4, 1, 0] rfl ?_
  exact j_X4_blow_5 C E    FU 0 0 s_heard h
noncomputable def f_X4_runOut_77  (p_drain : Nat → Int32) (p_length : Nat → Int32) (p_words : Nat → Int32) (n1 : Int32) (n2 : Int32) (k11 : Int32 → Int32 → Int32 → (Nat → Int32) → (Nat → Int32) → (Nat → Int32) → Option (Int32 × (Nat → Int32) × (Nat → Int32) × (Nat → Int32))) (x4 : Int32) (x5 : Int32) (s_lost : Int32) (s_gone : Nat → Int32) (s_many : Nat → Int32) (s_lying : Nat → Int32) : Option (Int32 × (Nat → Int32) × (Nat → Int32) × (Nat → Int32)) := if ixb n1 6 then if ixb n1 6 then k11 x4 (x5 + 1) s_lost (upd s_gone n1.toNatClampNeg ((s_gone n1.toNatClampNeg) + 1)) s_many s_lying else none else none
noncomputable def f_X4_runOut_11  (p_drain : Nat → Int32) (p_length : Nat → Int32) (p_words : Nat → Int32) (n1 : Int32) (n2 : Int32) : Nat → Int32 → Int32 → Int32 → (Nat → Int32) → (Nat → Int32) → (Nat → Int32) → Option (Int32 × (Nat → Int32) × (Nat → Int32) × (Nat → Int32))
  | 0, _, _, _, _, _, _ => none
  | n + 1, x4, x5, s_lost, s_gone, s_many, s_lying => if n2 ≤ x5 then some (s_lost, s_gone, s_many, s_lying) else if ixb x4 6 then if 12 ≤ (s_many x4.toNatClampNeg) then f_X4_runOut_77 p_drain p_length p_words n1 n2 (f_X4_runOut_11 p_drain p_length p_words n1 n2 n) x4 x5 (s_lost + 1) s_gone s_many s_lying else if ixb x4 6 then b1 (f_X4_nextOf s_gone p_length p_words n1) (fun v1 => if ixb ((x4 * 12) + (s_many x4.toNatClampNeg)) 72 then if ixb x4 6 then if ixb x4 6 then f_X4_runOut_77 p_drain p_length p_words n1 n2 (f_X4_runOut_11 p_drain p_length p_words n1 n2 n) x4 x5 s_lost s_gone (upd s_many x4.toNatClampNeg ((s_many x4.toNatClampNeg) + 1)) (upd s_lying ((x4 * 12) + (s_many x4.toNatClampNeg)).toNatClampNeg v1) else none else none else none) else none else none
noncomputable def f_X4_runOut (s_lost : Int32) (s_gone : Nat → Int32) (s_many : Nat → Int32) (s_lying : Nat → Int32) (p_drain : Nat → Int32) (p_length : Nat → Int32) (p_words : Nat → Int32) (n1 : Int32) (n2 : Int32) : Option (Int32 × (Nat → Int32) × (Nat → Int32) × (Nat → Int32)) := if ixb n1 6 then f_X4_runOut_11 p_drain p_length p_words n1 n2 FU (p_drain n1.toNatClampNeg) 0 s_lost s_gone s_many s_lying else none
def rm_X4_runOut : Room := { frames := 2, cells := 0, slots := 0, locals := 44 }
set_option maxRecDepth 100000 in
set_option maxHeartbeats 4000000 in
theorem j_X4_runOut_77 {J : Jt} {Z : Zt} {a0 : Nat → Nat} {a1 : Nat → Nat} {s_year : Int32} {s_wet : Int32} {s_eaten : Int32} {s_tied : Int32} {s_ripeMany : Int32} {s_place : Nat → Int32} {s_heard : Nat → Int32} {s_ripe : Nat → Int32} {p_beds : Int32} {p_letters : Int32} {p_readers : Int32} {p_far : Nat → Int32} {p_drain : Nat → Int32} {p_length : Nat → Int32} {p_words : Nat → Int32} {p_home : Nat → Int32} {n1 : Int32} {n2 : Int32} {o_s_lost : Int32} {o_s_gone : Nat → Int32} {o_s_many : Nat → Int32} {o_s_lying : Nat → Int32} {k11 : Int32 → Int32 → Int32 → (Nat → Int32) → (Nat → Int32) → (Nat → Int32) → Option (Int32 × (Nat → Int32) × (Nat → Int32) × (Nat → Int32))} (C : Cx J Z cX4_runOut 6 RX4 none rm_X4_runOut) (E : Ez J Z 0 0 none (cs_X4 J.2.2.1 a0 s_year s_wet o_s_lost s_eaten s_tied s_ripeMany o_s_gone s_place s_heard o_s_many o_s_lying s_ripe ++ cs_X2 J.2.2.1 a1 p_beds p_letters p_readers p_far p_drain p_length p_words p_home)) (hk11 : ∀ (x4 : Int32) (x5 : Int32) (s_lost : Int32) (s_gone : Nat → Int32) (s_many : Nat → Int32) (s_lying : Nat → Int32), k11 x4 x5 s_lost s_gone s_many s_lying = some (o_s_lost, o_s_gone, o_s_many, o_s_lying) → G J Z 0 0 (cs_X4 J.2.2.1 a0 s_year s_wet s_lost s_eaten s_tied s_ripeMany s_gone s_place s_heard s_many s_lying s_ripe ++ cs_X2 J.2.2.1 a1 p_beds p_letters p_readers p_far p_drain p_length p_words p_home) 6 [(0, .ref (a0 0)), (1, .ref (a1 0)), (2, .int n1), (3, .int n2), (4, .int x4), (5, .int x5)] 11 []) : ∀ (x4 : Int32) (x5 : Int32) (s_lost : Int32) (s_gone : Nat → Int32) (s_many : Nat → Int32) (s_lying : Nat → Int32), f_X4_runOut_77 p_drain p_length p_words n1 n2 k11 x4 x5 s_lost s_gone s_many s_lying = some (o_s_lost, o_s_gone, o_s_many, o_s_lying) → G J Z 0 0 (cs_X4 J.2.2.1 a0 s_year s_wet s_lost s_eaten s_tied s_ripeMany s_gone s_place s_heard s_many s_lying s_ripe ++ cs_X2 J.2.2.1 a1 p_beds p_letters p_readers p_far p_drain p_length p_words p_home) 6 [(0, .ref (a0 0)), (1, .ref (a1 0)), (2, .int n1), (3, .int n2), (4, .int x4), (5, .int x5)] 77 [] := by
  intro x4 x5 s_lost s_gone s_many s_lying h
  unfold f_X4_runOut_77 at h
  refine g_aload_n (pc := 77) C 0 rfl dX4_runOut_77 ?_
  refine g_get (pc := 78) C FOK_X4 0 rfl rfl 6 (by decide) kw_167 rfl dX4_runOut_78 ?_
  refine g_iload_n (pc := 81) C 2 rfl dX4_runOut_81 ?_
  refine g_dup2 (pc := 82) C dX4_runOut_82 rfl rfl ?_
  obtain ⟨hi, h⟩ := ix_of h
  refine g_iald (pc := 83) C 1 rfl hi dX4_runOut_83 ?_
  refine g_iconst (pc := 84) C dX4_runOut_84 ci_1 ?_
  refine g_iadd (pc := 85) C dX4_runOut_85 ?_
  obtain ⟨hi, h⟩ := ix_of h
  refine g_iast (pc := 86) C (w' := cs_X4 J.2.2.1 a0 s_year s_wet s_lost s_eaten s_tied s_ripeMany (upd s_gone n1.toNatClampNeg ((s_gone n1.toNatClampNeg) + 1)) s_place s_heard s_many s_lying s_ripe ++ cs_X2 J.2.2.1 a1 p_beds p_letters p_readers p_far p_drain p_length p_words p_home) 1 rfl hi dX4_runOut_86 rfl ?_
  refine g_iinc (pc := 87) C (j := 5) [(5, .int (x5 + 1)), (0, .ref (a0 0)), (1, .ref (a1 0)), (2, .int n1), (3, .int n2), (4, .int x4)] dX4_runOut_87 rfl (ii_1 _) (by decide) rfl ?_
  refine g_goto (pc := 90) C (tgt := 11) dX4_runOut_90 rfl ?_
  refine g_lv [1, 2, 3, 4, 5, 0] rfl ?_
  exact hk11 x4 (x5 + 1) s_lost (upd s_gone n1.toNatClampNeg ((s_gone n1.toNatClampNeg) + 1)) s_many s_lying h
set_option maxRecDepth 100000 in
set_option maxHeartbeats 4000000 in
theorem j_X4_runOut_11 {J : Jt} {Z : Zt} {a0 : Nat → Nat} {a1 : Nat → Nat} {s_year : Int32} {s_wet : Int32} {s_eaten : Int32} {s_tied : Int32} {s_ripeMany : Int32} {s_place : Nat → Int32} {s_heard : Nat → Int32} {s_ripe : Nat → Int32} {p_beds : Int32} {p_letters : Int32} {p_readers : Int32} {p_far : Nat → Int32} {p_drain : Nat → Int32} {p_length : Nat → Int32} {p_words : Nat → Int32} {p_home : Nat → Int32} {n1 : Int32} {n2 : Int32} {o_s_lost : Int32} {o_s_gone : Nat → Int32} {o_s_many : Nat → Int32} {o_s_lying : Nat → Int32} (C : Cx J Z cX4_runOut 6 RX4 none rm_X4_runOut) (E : Ez J Z 0 0 none (cs_X4 J.2.2.1 a0 s_year s_wet o_s_lost s_eaten s_tied s_ripeMany o_s_gone s_place s_heard o_s_many o_s_lying s_ripe ++ cs_X2 J.2.2.1 a1 p_beds p_letters p_readers p_far p_drain p_length p_words p_home)) : ∀ (n : Nat) (x4 : Int32) (x5 : Int32) (s_lost : Int32) (s_gone : Nat → Int32) (s_many : Nat → Int32) (s_lying : Nat → Int32), f_X4_runOut_11 p_drain p_length p_words n1 n2 n x4 x5 s_lost s_gone s_many s_lying = some (o_s_lost, o_s_gone, o_s_many, o_s_lying) → G J Z 0 0 (cs_X4 J.2.2.1 a0 s_year s_wet s_lost s_eaten s_tied s_ripeMany s_gone s_place s_heard s_many s_lying s_ripe ++ cs_X2 J.2.2.1 a1 p_beds p_letters p_readers p_far p_drain p_length p_words p_home) 6 [(0, .ref (a0 0)), (1, .ref (a1 0)), (2, .int n1), (3, .int n2), (4, .int x4), (5, .int x5)] 11 [] := by
  intro n
  induction n with
  | zero =>
    intro x4 x5 s_lost s_gone s_many s_lying h
    rw [f_X4_runOut_11] at h
    cases h
  | succ n ih =>
    intro x4 x5 s_lost s_gone s_many s_lying h
    rw [f_X4_runOut_11] at h
    refine g_iload (pc := 11) C 5 rfl dX4_runOut_11 ?_
    refine g_iload_n (pc := 13) C 3 rfl dX4_runOut_13 ?_
    refine g_icmp_ge (pc := 14) C (tgt := 93) dX4_runOut_14 rfl h (fun h => ?_) (fun h => ?_)
    · cases h
      exact g_vret C E dX4_runOut_93
    · refine g_aload_n (pc := 17) C 0 rfl dX4_runOut_17 ?_
      refine g_get (pc := 18) C FOK_X4 0 rfl rfl 9 (by decide) kw_172 rfl dX4_runOut_18 ?_
      refine g_iload (pc := 21) C 4 rfl dX4_runOut_21 ?_
      obtain ⟨hi, h⟩ := ix_of h
      refine g_iald (pc := 23) C 4 rfl hi dX4_runOut_23 ?_
      refine g_bipush (pc := 24) C dX4_runOut_24 cb_12 ?_
      refine g_icmp_ge (pc := 26) C (tgt := 67) dX4_runOut_26 rfl h (fun h => ?_) (fun h => ?_)
      · refine g_aload_n (pc := 67) C 0 rfl dX4_runOut_67 ?_
        refine g_dup (pc := 68) C dX4_runOut_68 rfl ?_
        refine g_get (pc := 69) C FOK_X4 0 rfl rfl 2 (by decide) kw_159 rfl dX4_runOut_69 ?_
        refine g_iconst (pc := 72) C dX4_runOut_72 ci_1 ?_
        refine g_iadd (pc := 73) C dX4_runOut_73 ?_
        refine g_put (pc := 74) C (w' := cs_X4 J.2.2.1 a0 s_year s_wet (s_lost + 1) s_eaten s_tied s_ripeMany s_gone s_place s_heard s_many s_lying s_ripe ++ cs_X2 J.2.2.1 a1 p_beds p_letters p_readers p_far p_drain p_length p_words p_home) FOK_X4 0 rfl rfl 2 (by decide) kw_159 rfl rfl rfl (Nat.le_of_ble_eq_true rfl) dX4_runOut_74 rfl ?_
        exact j_X4_runOut_77 C E   ih x4 x5 (s_lost + 1) s_gone s_many s_lying h
      · refine g_aload_n (pc := 29) C 0 rfl dX4_runOut_29 ?_
        refine g_get (pc := 30) C FOK_X4 0 rfl rfl 10 (by decide) kw_174 rfl dX4_runOut_30 ?_
        refine g_iload (pc := 33) C 4 rfl dX4_runOut_33 ?_
        refine g_bipush (pc := 35) C dX4_runOut_35 cb_12 ?_
        refine g_imul (pc := 37) C dX4_runOut_37 ?_
        refine g_aload_n (pc := 38) C 0 rfl dX4_runOut_38 ?_
        refine g_get (pc := 39) C FOK_X4 0 rfl rfl 9 (by decide) kw_172 rfl dX4_runOut_39 ?_
        refine g_iload (pc := 42) C 4 rfl dX4_runOut_42 ?_
        obtain ⟨hi, h⟩ := ix_of h
        refine g_iald (pc := 44) C 4 rfl hi dX4_runOut_44 ?_
        refine g_iadd (pc := 45) C dX4_runOut_45 ?_
        refine g_aload_n (pc := 46) C 0 rfl dX4_runOut_46 ?_
        refine g_aload_n (pc := 47) C 1 rfl dX4_runOut_47 ?_
        refine g_iload_n (pc := 48) C 2 rfl dX4_runOut_48 ?_
        obtain ⟨v1, hc, h⟩ := b1_of h
        refine g_callV (pc := 49) C (w' := cs_X4 J.2.2.1 a0 s_year s_wet s_lost s_eaten s_tied s_ripeMany s_gone s_place s_heard s_many s_lying s_ripe ++ cs_X2 J.2.2.1 a1 p_beds p_letters p_readers p_far p_drain p_length p_words p_home) (As := [.ref (a1 0), .int n1]) (st := [.int ((x4 * 12) + (s_many x4.toNatClampNeg)), .ref (a0 5)]) (ci := 4) (q0 := 0) rfl rfl (t_X4_nextOf (a0 := a0) (a1 := a1) hc) Sub.same kw_864 kw_473 kw_474 kw_88 hy_X4_nextOf kw_475 rfl (Nat.le_of_ble_eq_true rfl) (Nat.le_of_ble_eq_true rfl) (Nat.le_of_ble_eq_true rfl) (Nat.le_of_ble_eq_true rfl) (Nat.le_of_ble_eq_true rfl) dX4_runOut_49 ?_
        obtain ⟨hi, h⟩ := ix_of h
        refine g_iast (pc := 52) C (w' := cs_X4 J.2.2.1 a0 s_year s_wet s_lost s_eaten s_tied s_ripeMany s_gone s_place s_heard s_many (upd s_lying ((x4 * 12) + (s_many x4.toNatClampNeg)).toNatClampNeg v1) s_ripe ++ cs_X2 J.2.2.1 a1 p_beds p_letters p_readers p_far p_drain p_length p_words p_home) 5 rfl hi dX4_runOut_52 rfl ?_
        refine g_aload_n (pc := 53) C 0 rfl dX4_runOut_53 ?_
        refine g_get (pc := 54) C FOK_X4 0 rfl rfl 9 (by decide) kw_172 rfl dX4_runOut_54 ?_
        refine g_iload (pc := 57) C 4 rfl dX4_runOut_57 ?_
        refine g_dup2 (pc := 59) C dX4_runOut_59 rfl rfl ?_
        obtain ⟨hi, h⟩ := ix_of h
        refine g_iald (pc := 60) C 4 rfl hi dX4_runOut_60 ?_
        refine g_iconst (pc := 61) C dX4_runOut_61 ci_1 ?_
        refine g_iadd (pc := 62) C dX4_runOut_62 ?_
        obtain ⟨hi, h⟩ := ix_of h
        refine g_iast (pc := 63) C (w' := cs_X4 J.2.2.1 a0 s_year s_wet s_lost s_eaten s_tied s_ripeMany s_gone s_place s_heard (upd s_many x4.toNatClampNeg ((s_many x4.toNatClampNeg) + 1)) (upd s_lying ((x4 * 12) + (s_many x4.toNatClampNeg)).toNatClampNeg v1) s_ripe ++ cs_X2 J.2.2.1 a1 p_beds p_letters p_readers p_far p_drain p_length p_words p_home) 4 rfl hi dX4_runOut_63 rfl ?_
        refine g_goto (pc := 64) C (tgt := 77) dX4_runOut_64 rfl ?_
        exact j_X4_runOut_77 C E   ih x4 x5 s_lost s_gone (upd s_many x4.toNatClampNeg ((s_many x4.toNatClampNeg) + 1)) (upd s_lying ((x4 * 12) + (s_many x4.toNatClampNeg)).toNatClampNeg v1) h
set_option maxRecDepth 100000 in
set_option maxHeartbeats 4000000 in
theorem t_X4_runOut {J : Jt} {a0 : Nat → Nat} {a1 : Nat → Nat} {s_year : Int32} {s_wet : Int32} {s_lost : Int32} {s_eaten : Int32} {s_tied : Int32} {s_ripeMany : Int32} {s_gone : Nat → Int32} {s_place : Nat → Int32} {s_heard : Nat → Int32} {s_many : Nat → Int32} {s_lying : Nat → Int32} {s_ripe : Nat → Int32} {p_beds : Int32} {p_letters : Int32} {p_readers : Int32} {p_far : Nat → Int32} {p_drain : Nat → Int32} {p_length : Nat → Int32} {p_words : Nat → Int32} {p_home : Nat → Int32} {n1 : Int32} {n2 : Int32} {o_s_lost : Int32} {o_s_gone : Nat → Int32} {o_s_many : Nat → Int32} {o_s_lying : Nat → Int32} (h : f_X4_runOut s_lost s_gone s_many s_lying p_drain p_length p_words n1 n2 = some (o_s_lost, o_s_gone, o_s_many, o_s_lying)) : Mt J yX4_runOut cX4_runOut 6 none rm_X4_runOut [.ref (a0 0), .ref (a1 0), .int n1, .int n2] (cs_X4 J.2.2.1 a0 s_year s_wet s_lost s_eaten s_tied s_ripeMany s_gone s_place s_heard s_many s_lying s_ripe ++ cs_X2 J.2.2.1 a1 p_beds p_letters p_readers p_far p_drain p_length p_words p_home) none (cs_X4 J.2.2.1 a0 s_year s_wet o_s_lost s_eaten s_tied s_ripeMany o_s_gone s_place s_heard o_s_many o_s_lying s_ripe ++ cs_X2 J.2.2.1 a1 p_beds p_letters p_readers p_far p_drain p_length p_words p_home) := by
  refine Mt_of (own := RX4) (by decide) rfl (Nat.le_of_ble_eq_true rfl) rfl (fun Z C E => ?_)
  unfold f_X4_runOut at h
  show G J Z 0 0 (cs_X4 J.2.2.1 a0 s_year s_wet s_lost s_eaten s_tied s_ripeMany s_gone s_place s_heard s_many s_lying s_ripe ++ cs_X2 J.2.2.1 a1 p_beds p_letters p_readers p_far p_drain p_length p_words p_home) 6 [(0, .ref (a0 0)), (1, .ref (a1 0)), (2, .int n1), (3, .int n2)] 0 []
  refine g_aload_n (pc := 0) C 1 rfl dX4_runOut_0 ?_
  refine g_get (pc := 1) C FOK_X2 7 rfl rfl 4 (by decide) kw_296 rfl dX4_runOut_1 ?_
  refine g_iload_n (pc := 4) C 2 rfl dX4_runOut_4 ?_
  obtain ⟨hi, h⟩ := ix_of h
  refine g_iald (pc := 5) C 9 rfl hi dX4_runOut_5 ?_
  refine g_istore (pc := 6) C [(4, .int (p_drain n1.toNatClampNeg)), (0, .ref (a0 0)), (1, .ref (a1 0)), (2, .int n1), (3, .int n2)] dX4_runOut_6 (by decide) rfl ?_
  refine g_iconst (pc := 8) C dX4_runOut_8 ci_0 ?_
  refine g_istore (pc := 9) C [(5, .int 0), (4, .int (p_drain n1.toNatClampNeg)), (0, .ref (a0 0)), (1, .ref (a1 0)), (2, .int n1), (3, .int n2)] dX4_runOut_9 (by decide) rfl ?_
  refine g_lv [2, 3, 4, 5, 1, 0] rfl ?_
  exact j_X4_runOut_11 C E    FU (p_drain n1.toNatClampNeg) 0 s_lost s_gone s_many s_lying h
noncomputable def f_X4_pour_12  (s_year : Int32) (s_tied : Int32) (p_letters : Int32) (p_far : Nat → Int32) (p_drain : Nat → Int32) (p_length : Nat → Int32) (p_words : Nat → Int32) (l_code : Nat → Int32) (l_length : Int32) (n1 : Int32) : Nat → Int32 → Int32 → Int32 → (Nat → Int32) → (Nat → Int32) → (Nat → Int32) → (Nat → Int32) → (Nat → Int32) → Option (Int32 × Int32 × (Nat → Int32) × (Nat → Int32) × (Nat → Int32) × (Nat → Int32) × (Nat → Int32))
  | 0, _, _, _, _, _, _, _, _ => none
  | n + 1, x4, s_wet, s_lost, s_gone, s_many, s_lying, l_values, l_stack => if p_letters ≤ x4 then some (s_wet, s_lost, s_gone, s_many, s_lying, l_values, l_stack) else b1 (f_X4_isTied s_tied x4) (fun v1 => if v1 = 0 then b1 (f_X4_leftOf s_gone p_length x4) (fun v2 => if v2 ≤ 0 then f_X4_pour_12 s_year s_tied p_letters p_far p_drain p_length p_words l_code l_length n1 n (x4 + 1) s_wet s_lost s_gone s_many s_lying l_values l_stack else b3 (f_X4_runOf s_year s_gone s_many p_far p_drain p_length l_code l_values l_stack l_length x4 n1 s_wet) (fun v3 c4 c5 => b4 (f_X4_runOut s_lost s_gone s_many s_lying p_drain p_length p_words x4 v3) (fun c6 c7 c8 c9 => f_X4_pour_12 s_year s_tied p_letters p_far p_drain p_length p_words l_code l_length n1 n (x4 + 1) s_wet c6 c7 c8 c9 c4 c5))) else f_X4_pour_12 s_year s_tied p_letters p_far p_drain p_length p_words l_code l_length n1 n (x4 + 1) s_wet s_lost s_gone s_many s_lying l_values l_stack)
noncomputable def f_X4_pour (s_year : Int32) (s_wet : Int32) (s_lost : Int32) (s_tied : Int32) (s_gone : Nat → Int32) (s_many : Nat → Int32) (s_lying : Nat → Int32) (p_letters : Int32) (p_far : Nat → Int32) (p_drain : Nat → Int32) (p_length : Nat → Int32) (p_words : Nat → Int32) (l_code : Nat → Int32) (l_values : Nat → Int32) (l_stack : Nat → Int32) (l_length : Int32) (n1 : Int32) : Option (Int32 × Int32 × (Nat → Int32) × (Nat → Int32) × (Nat → Int32) × (Nat → Int32) × (Nat → Int32)) := b1 (f_X4_wetBy s_wet n1) (fun v10 => f_X4_pour_12 s_year s_tied p_letters p_far p_drain p_length p_words l_code l_length n1 FU 0 v10 s_lost s_gone s_many s_lying l_values l_stack)
def rm_X4_pour : Room := { frames := 3, cells := 0, slots := 0, locals := 80 }
set_option maxRecDepth 100000 in
set_option maxHeartbeats 4000000 in
theorem j_X4_pour_12 {J : Jt} {Z : Zt} {a0 : Nat → Nat} {a1 : Nat → Nat} {a2 : Nat → Nat} {s_year : Int32} {s_eaten : Int32} {s_tied : Int32} {s_ripeMany : Int32} {s_place : Nat → Int32} {s_heard : Nat → Int32} {s_ripe : Nat → Int32} {p_beds : Int32} {p_letters : Int32} {p_readers : Int32} {p_far : Nat → Int32} {p_drain : Nat → Int32} {p_length : Nat → Int32} {p_words : Nat → Int32} {p_home : Nat → Int32} {l_code : Nat → Int32} {l_length : Int32} {n1 : Int32} {o_s_wet : Int32} {o_s_lost : Int32} {o_s_gone : Nat → Int32} {o_s_many : Nat → Int32} {o_s_lying : Nat → Int32} {o_l_values : Nat → Int32} {o_l_stack : Nat → Int32} (C : Cx J Z cX4_pour 5 RX4 none rm_X4_pour) (E : Ez J Z 0 0 none (cs_X4 J.2.2.1 a0 s_year o_s_wet o_s_lost s_eaten s_tied s_ripeMany o_s_gone s_place s_heard o_s_many o_s_lying s_ripe ++ cs_X2 J.2.2.1 a1 p_beds p_letters p_readers p_far p_drain p_length p_words p_home ++ cs_X1 J.2.2.1 a2 l_code o_l_values o_l_stack l_length)) : ∀ (n : Nat) (x4 : Int32) (s_wet : Int32) (s_lost : Int32) (s_gone : Nat → Int32) (s_many : Nat → Int32) (s_lying : Nat → Int32) (l_values : Nat → Int32) (l_stack : Nat → Int32), f_X4_pour_12 s_year s_tied p_letters p_far p_drain p_length p_words l_code l_length n1 n x4 s_wet s_lost s_gone s_many s_lying l_values l_stack = some (o_s_wet, o_s_lost, o_s_gone, o_s_many, o_s_lying, o_l_values, o_l_stack) → G J Z 0 0 (cs_X4 J.2.2.1 a0 s_year s_wet s_lost s_eaten s_tied s_ripeMany s_gone s_place s_heard s_many s_lying s_ripe ++ cs_X2 J.2.2.1 a1 p_beds p_letters p_readers p_far p_drain p_length p_words p_home ++ cs_X1 J.2.2.1 a2 l_code l_values l_stack l_length) 5 [(0, .ref (a0 0)), (1, .ref (a1 0)), (2, .ref (a2 0)), (3, .int n1), (4, .int x4)] 12 [] := by
  intro n
  induction n with
  | zero =>
    intro x4 s_wet s_lost s_gone s_many s_lying l_values l_stack h
    rw [f_X4_pour_12] at h
    cases h
  | succ n ih =>
    intro x4 s_wet s_lost s_gone s_many s_lying l_values l_stack h
    rw [f_X4_pour_12] at h
    refine g_iload (pc := 12) C 4 rfl dX4_pour_12 ?_
    refine g_aload_n (pc := 14) C 1 rfl dX4_pour_14 ?_
    refine g_get (pc := 15) C FOK_X2 7 rfl rfl 1 (by decide) kw_285 rfl dX4_pour_15 ?_
    refine g_icmp_ge (pc := 18) C (tgt := 66) dX4_pour_18 rfl h (fun h => ?_) (fun h => ?_)
    · cases h
      exact g_vret C E dX4_pour_66
    · refine g_aload_n (pc := 21) C 0 rfl dX4_pour_21 ?_
      refine g_iload (pc := 22) C 4 rfl dX4_pour_22 ?_
      obtain ⟨v1, hc, h⟩ := b1_of h
      refine g_callV (pc := 24) C (w' := cs_X4 J.2.2.1 a0 s_year s_wet s_lost s_eaten s_tied s_ripeMany s_gone s_place s_heard s_many s_lying s_ripe ++ cs_X2 J.2.2.1 a1 p_beds p_letters p_readers p_far p_drain p_length p_words p_home ++ cs_X1 J.2.2.1 a2 l_code l_values l_stack l_length) (As := [.int x4]) (st := []) (ci := 4) (q0 := 0) rfl rfl (t_X4_isTied (a0 := a0) hc) (Sub.gen [0, 1, 2, 3, 4, 5, 6] [7, 8, 9, 10, 11, 12, 13, 14, 15, 16] [10, 11, 12, 13, 14, 15, 16, 0, 1, 2, 3, 4, 5, 6, 7, 8, 9] rfl (by decide) rfl (by decide) (by decide) rfl (by decide)) kw_890 kw_891 kw_892 kw_88 hy_X4_isTied kw_893 rfl (Nat.le_of_ble_eq_true rfl) (Nat.le_of_ble_eq_true rfl) (Nat.le_of_ble_eq_true rfl) (Nat.le_of_ble_eq_true rfl) (Nat.le_of_ble_eq_true rfl) dX4_pour_24 ?_
      refine g_if_ne (pc := 27) C (tgt := 60) dX4_pour_27 rfl h (fun h => ?_) (fun h => ?_)
      · refine g_iinc (pc := 60) C (j := 4) [(4, .int (x4 + 1)), (0, .ref (a0 0)), (1, .ref (a1 0)), (2, .ref (a2 0)), (3, .int n1)] dX4_pour_60 rfl (ii_1 _) (by decide) rfl ?_
        refine g_goto (pc := 63) C (tgt := 12) dX4_pour_63 rfl ?_
        refine g_lv [1, 2, 3, 4, 0] rfl ?_
        exact ih (x4 + 1) s_wet s_lost s_gone s_many s_lying l_values l_stack h
      · refine g_aload_n (pc := 30) C 0 rfl dX4_pour_30 ?_
        refine g_aload_n (pc := 31) C 1 rfl dX4_pour_31 ?_
        refine g_iload (pc := 32) C 4 rfl dX4_pour_32 ?_
        obtain ⟨v2, hc, h⟩ := b1_of h
        refine g_callV (pc := 34) C (w' := cs_X4 J.2.2.1 a0 s_year s_wet s_lost s_eaten s_tied s_ripeMany s_gone s_place s_heard s_many s_lying s_ripe ++ cs_X2 J.2.2.1 a1 p_beds p_letters p_readers p_far p_drain p_length p_words p_home ++ cs_X1 J.2.2.1 a2 l_code l_values l_stack l_length) (As := [.ref (a1 0), .int x4]) (st := []) (ci := 4) (q0 := 0) rfl rfl (t_X4_leftOf (a0 := a0) (a1 := a1) hc) (Sub.gen [0, 1, 2, 3, 4, 5, 6, 7, 8, 9, 10, 11, 12] [13, 14, 15, 16] [4, 5, 6, 7, 8, 9, 10, 11, 12, 13, 14, 15, 16, 0, 1, 2, 3] rfl (by decide) rfl (by decide) (by decide) rfl (by decide)) kw_476 kw_465 kw_466 kw_88 hy_X4_leftOf kw_467 rfl (Nat.le_of_ble_eq_true rfl) (Nat.le_of_ble_eq_true rfl) (Nat.le_of_ble_eq_true rfl) (Nat.le_of_ble_eq_true rfl) (Nat.le_of_ble_eq_true rfl) dX4_pour_34 ?_
        refine g_if_le (pc := 37) C (tgt := 60) dX4_pour_37 rfl h (fun h => ?_) (fun h => ?_)
        · refine g_iinc (pc := 60) C (j := 4) [(4, .int (x4 + 1)), (0, .ref (a0 0)), (1, .ref (a1 0)), (2, .ref (a2 0)), (3, .int n1)] dX4_pour_60 rfl (ii_1 _) (by decide) rfl ?_
          refine g_goto (pc := 63) C (tgt := 12) dX4_pour_63 rfl ?_
          refine g_lv [1, 2, 3, 4, 0] rfl ?_
          exact ih (x4 + 1) s_wet s_lost s_gone s_many s_lying l_values l_stack h
        · refine g_aload_n (pc := 40) C 0 rfl dX4_pour_40 ?_
          refine g_aload_n (pc := 41) C 1 rfl dX4_pour_41 ?_
          refine g_iload (pc := 42) C 4 rfl dX4_pour_42 ?_
          refine g_aload_n (pc := 44) C 0 rfl dX4_pour_44 ?_
          refine g_aload_n (pc := 45) C 1 rfl dX4_pour_45 ?_
          refine g_aload_n (pc := 46) C 2 rfl dX4_pour_46 ?_
          refine g_iload (pc := 47) C 4 rfl dX4_pour_47 ?_
          refine g_iload_n (pc := 49) C 3 rfl dX4_pour_49 ?_
          refine g_aload_n (pc := 50) C 0 rfl dX4_pour_50 ?_
          refine g_get (pc := 51) C FOK_X4 0 rfl rfl 1 (by decide) kw_157 rfl dX4_pour_51 ?_
          obtain ⟨v3, c4, c5, hc, h⟩ := b3_of h
          refine g_callV (pc := 54) C (w' := cs_X4 J.2.2.1 a0 s_year s_wet s_lost s_eaten s_tied s_ripeMany s_gone s_place s_heard s_many s_lying s_ripe ++ cs_X2 J.2.2.1 a1 p_beds p_letters p_readers p_far p_drain p_length p_words p_home ++ cs_X1 J.2.2.1 a2 l_code c4 c5 l_length) (As := [.ref (a1 0), .ref (a2 0), .int x4, .int n1, .int s_wet]) (st := [.int x4, .ref (a1 0), .ref (a0 0)]) (ci := 4) (q0 := 0) rfl rfl (t_X4_runOf (a0 := a0) (a1 := a1) (a2 := a2) hc) Sub.same kw_895 kw_896 kw_897 kw_88 hy_X4_runOf kw_898 rfl (Nat.le_of_ble_eq_true rfl) (Nat.le_of_ble_eq_true rfl) (Nat.le_of_ble_eq_true rfl) (Nat.le_of_ble_eq_true rfl) (Nat.le_of_ble_eq_true rfl) dX4_pour_54 ?_
          obtain ⟨c6, c7, c8, c9, hc, h⟩ := b4_of h
          refine g_callV (pc := 57) C (w' := cs_X4 J.2.2.1 a0 s_year s_wet c6 s_eaten s_tied s_ripeMany c7 s_place s_heard c8 c9 s_ripe ++ cs_X2 J.2.2.1 a1 p_beds p_letters p_readers p_far p_drain p_length p_words p_home ++ cs_X1 J.2.2.1 a2 l_code c4 c5 l_length) (As := [.ref (a1 0), .int x4, .int v3]) (st := []) (ci := 4) (q0 := 0) rfl rfl (t_X4_runOut (a0 := a0) (a1 := a1) hc) (Sub.gen [0, 1, 2, 3, 4, 5, 6, 7, 8, 9, 10, 11, 12] [13, 14, 15, 16] [4, 5, 6, 7, 8, 9, 10, 11, 12, 13, 14, 15, 16, 0, 1, 2, 3] rfl (by decide) rfl (by decide) (by decide) rfl (by decide)) kw_906 kw_907 kw_908 kw_88 hy_X4_runOut kw_909 rfl (Nat.le_of_ble_eq_true rfl) (Nat.le_of_ble_eq_true rfl) (Nat.le_of_ble_eq_true rfl) (Nat.le_of_ble_eq_true rfl) (Nat.le_of_ble_eq_true rfl) dX4_pour_57 ?_
          refine g_iinc (pc := 60) C (j := 4) [(4, .int (x4 + 1)), (0, .ref (a0 0)), (1, .ref (a1 0)), (2, .ref (a2 0)), (3, .int n1)] dX4_pour_60 rfl (ii_1 _) (by decide) rfl ?_
          refine g_goto (pc := 63) C (tgt := 12) dX4_pour_63 rfl ?_
          refine g_lv [1, 2, 3, 4, 0] rfl ?_
          exact ih (x4 + 1) s_wet c6 c7 c8 c9 c4 c5 h
set_option maxRecDepth 100000 in
set_option maxHeartbeats 4000000 in
theorem t_X4_pour {J : Jt} {a0 : Nat → Nat} {a1 : Nat → Nat} {a2 : Nat → Nat} {s_year : Int32} {s_wet : Int32} {s_lost : Int32} {s_eaten : Int32} {s_tied : Int32} {s_ripeMany : Int32} {s_gone : Nat → Int32} {s_place : Nat → Int32} {s_heard : Nat → Int32} {s_many : Nat → Int32} {s_lying : Nat → Int32} {s_ripe : Nat → Int32} {p_beds : Int32} {p_letters : Int32} {p_readers : Int32} {p_far : Nat → Int32} {p_drain : Nat → Int32} {p_length : Nat → Int32} {p_words : Nat → Int32} {p_home : Nat → Int32} {l_code : Nat → Int32} {l_values : Nat → Int32} {l_stack : Nat → Int32} {l_length : Int32} {n1 : Int32} {o_s_wet : Int32} {o_s_lost : Int32} {o_s_gone : Nat → Int32} {o_s_many : Nat → Int32} {o_s_lying : Nat → Int32} {o_l_values : Nat → Int32} {o_l_stack : Nat → Int32} (h : f_X4_pour s_year s_wet s_lost s_tied s_gone s_many s_lying p_letters p_far p_drain p_length p_words l_code l_values l_stack l_length n1 = some (o_s_wet, o_s_lost, o_s_gone, o_s_many, o_s_lying, o_l_values, o_l_stack)) : Mt J yX4_pour cX4_pour 5 none rm_X4_pour [.ref (a0 0), .ref (a1 0), .ref (a2 0), .int n1] (cs_X4 J.2.2.1 a0 s_year s_wet s_lost s_eaten s_tied s_ripeMany s_gone s_place s_heard s_many s_lying s_ripe ++ cs_X2 J.2.2.1 a1 p_beds p_letters p_readers p_far p_drain p_length p_words p_home ++ cs_X1 J.2.2.1 a2 l_code l_values l_stack l_length) none (cs_X4 J.2.2.1 a0 s_year o_s_wet o_s_lost s_eaten s_tied s_ripeMany o_s_gone s_place s_heard o_s_many o_s_lying s_ripe ++ cs_X2 J.2.2.1 a1 p_beds p_letters p_readers p_far p_drain p_length p_words p_home ++ cs_X1 J.2.2.1 a2 l_code o_l_values o_l_stack l_length) := by
  refine Mt_of (own := RX4) (by decide) rfl (Nat.le_of_ble_eq_true rfl) rfl (fun Z C E => ?_)
  unfold f_X4_pour at h
  show G J Z 0 0 (cs_X4 J.2.2.1 a0 s_year s_wet s_lost s_eaten s_tied s_ripeMany s_gone s_place s_heard s_many s_lying s_ripe ++ cs_X2 J.2.2.1 a1 p_beds p_letters p_readers p_far p_drain p_length p_words p_home ++ cs_X1 J.2.2.1 a2 l_code l_values l_stack l_length) 5 [(0, .ref (a0 0)), (1, .ref (a1 0)), (2, .ref (a2 0)), (3, .int n1)] 0 []
  refine g_aload_n (pc := 0) C 0 rfl dX4_pour_0 ?_
  refine g_aload_n (pc := 1) C 0 rfl dX4_pour_1 ?_
  refine g_iload_n (pc := 2) C 3 rfl dX4_pour_2 ?_
  obtain ⟨v10, hc, h⟩ := b1_of h
  refine g_callV (pc := 3) C (w' := cs_X4 J.2.2.1 a0 s_year s_wet s_lost s_eaten s_tied s_ripeMany s_gone s_place s_heard s_many s_lying s_ripe ++ cs_X2 J.2.2.1 a1 p_beds p_letters p_readers p_far p_drain p_length p_words p_home ++ cs_X1 J.2.2.1 a2 l_code l_values l_stack l_length) (As := [.int n1]) (st := [.ref (a0 0)]) (ci := 4) (q0 := 0) rfl rfl (t_X4_wetBy (a0 := a0) hc) (Sub.gen [0, 1, 2, 3, 4, 5, 6] [7, 8, 9, 10, 11, 12, 13, 14, 15, 16] [10, 11, 12, 13, 14, 15, 16, 0, 1, 2, 3, 4, 5, 6, 7, 8, 9] rfl (by decide) rfl (by decide) (by decide) rfl (by decide)) kw_885 kw_886 kw_887 kw_88 hy_X4_wetBy kw_888 rfl (Nat.le_of_ble_eq_true rfl) (Nat.le_of_ble_eq_true rfl) (Nat.le_of_ble_eq_true rfl) (Nat.le_of_ble_eq_true rfl) (Nat.le_of_ble_eq_true rfl) dX4_pour_3 ?_
  refine g_put (pc := 6) C (w' := cs_X4 J.2.2.1 a0 s_year v10 s_lost s_eaten s_tied s_ripeMany s_gone s_place s_heard s_many s_lying s_ripe ++ cs_X2 J.2.2.1 a1 p_beds p_letters p_readers p_far p_drain p_length p_words p_home ++ cs_X1 J.2.2.1 a2 l_code l_values l_stack l_length) FOK_X4 0 rfl rfl 1 (by decide) kw_157 rfl rfl rfl (Nat.le_of_ble_eq_true rfl) dX4_pour_6 rfl ?_
  refine g_iconst (pc := 9) C dX4_pour_9 ci_0 ?_
  refine g_istore (pc := 10) C [(4, .int 0), (0, .ref (a0 0)), (1, .ref (a1 0)), (2, .ref (a2 0)), (3, .int n1)] dX4_pour_10 (by decide) rfl ?_
  refine g_lv [1, 2, 3, 4, 0] rfl ?_
  exact j_X4_pour_12 C E    FU 0 v10 s_lost s_gone s_many s_lying l_values l_stack h
noncomputable def f_X4_go (s_place : Nat → Int32) (s_heard : Nat → Int32) (s_many : Nat → Int32) (s_lying : Nat → Int32) (n1 : Int32) (n2 : Int32) : Option (Int32 × (Nat → Int32) × (Nat → Int32)) := if ixb n1 5 then if (s_place n1.toNatClampNeg) = n2 then some (0, s_place, s_heard) else if ixb n1 5 then if ixb n1 5 then b1 (f_X4_wordsIn s_many s_lying n2) (fun v1 => if ixb n1 5 then some (1, upd s_place n1.toNatClampNeg n2, upd s_heard n1.toNatClampNeg ((s_heard n1.toNatClampNeg) ||| v1)) else none) else none else none else none
def rm_X4_go : Room := { frames := 2, cells := 0, slots := 0, locals := 45 }
set_option maxRecDepth 100000 in
set_option maxHeartbeats 4000000 in
theorem t_X4_go {J : Jt} {a0 : Nat → Nat} {s_year : Int32} {s_wet : Int32} {s_lost : Int32} {s_eaten : Int32} {s_tied : Int32} {s_ripeMany : Int32} {s_gone : Nat → Int32} {s_place : Nat → Int32} {s_heard : Nat → Int32} {s_many : Nat → Int32} {s_lying : Nat → Int32} {s_ripe : Nat → Int32} {n1 : Int32} {n2 : Int32} {r : Int32} {o_s_place : Nat → Int32} {o_s_heard : Nat → Int32} (h : f_X4_go s_place s_heard s_many s_lying n1 n2 = some (r, o_s_place, o_s_heard)) : Mt J yX4_go cX4_go 3 (some .boolean) rm_X4_go [.ref (a0 0), .int n1, .int n2] (cs_X4 J.2.2.1 a0 s_year s_wet s_lost s_eaten s_tied s_ripeMany s_gone s_place s_heard s_many s_lying s_ripe) (some (.int r)) (cs_X4 J.2.2.1 a0 s_year s_wet s_lost s_eaten s_tied s_ripeMany s_gone o_s_place o_s_heard s_many s_lying s_ripe) := by
  refine Mt_of (own := RX4) (by decide) rfl (Nat.le_of_ble_eq_true rfl) rfl (fun Z C E => ?_)
  unfold f_X4_go at h
  show G J Z 0 0 (cs_X4 J.2.2.1 a0 s_year s_wet s_lost s_eaten s_tied s_ripeMany s_gone s_place s_heard s_many s_lying s_ripe) 3 [(0, .ref (a0 0)), (1, .int n1), (2, .int n2)] 0 []
  refine g_aload_n (pc := 0) C 0 rfl dX4_go_0 ?_
  refine g_get (pc := 1) C FOK_X4 0 rfl rfl 7 (by decide) kw_168 rfl dX4_go_1 ?_
  refine g_iload_n (pc := 4) C 1 rfl dX4_go_4 ?_
  obtain ⟨hi, h⟩ := ix_of h
  refine g_iald (pc := 5) C 2 rfl hi dX4_go_5 ?_
  refine g_iload_n (pc := 6) C 2 rfl dX4_go_6 ?_
  refine g_icmp_ne (pc := 7) C (tgt := 12) dX4_go_7 rfl h (fun h => ?_) (fun h => ?_)
  · refine g_aload_n (pc := 12) C 0 rfl dX4_go_12 ?_
    refine g_get (pc := 13) C FOK_X4 0 rfl rfl 7 (by decide) kw_168 rfl dX4_go_13 ?_
    refine g_iload_n (pc := 16) C 1 rfl dX4_go_16 ?_
    refine g_iload_n (pc := 17) C 2 rfl dX4_go_17 ?_
    obtain ⟨hi, h⟩ := ix_of h
    refine g_iast (pc := 18) C (w' := cs_X4 J.2.2.1 a0 s_year s_wet s_lost s_eaten s_tied s_ripeMany s_gone (upd s_place n1.toNatClampNeg n2) s_heard s_many s_lying s_ripe) 2 rfl hi dX4_go_18 rfl ?_
    refine g_aload_n (pc := 19) C 0 rfl dX4_go_19 ?_
    refine g_get (pc := 20) C FOK_X4 0 rfl rfl 8 (by decide) kw_170 rfl dX4_go_20 ?_
    refine g_iload_n (pc := 23) C 1 rfl dX4_go_23 ?_
    refine g_dup2 (pc := 24) C dX4_go_24 rfl rfl ?_
    obtain ⟨hi, h⟩ := ix_of h
    refine g_iald (pc := 25) C 3 rfl hi dX4_go_25 ?_
    refine g_aload_n (pc := 26) C 0 rfl dX4_go_26 ?_
    refine g_iload_n (pc := 27) C 2 rfl dX4_go_27 ?_
    obtain ⟨v1, hc, h⟩ := b1_of h
    refine g_callV (pc := 28) C (w' := cs_X4 J.2.2.1 a0 s_year s_wet s_lost s_eaten s_tied s_ripeMany s_gone (upd s_place n1.toNatClampNeg n2) s_heard s_many s_lying s_ripe) (As := [.int n2]) (st := [.int (s_heard n1.toNatClampNeg), .int n1, .ref (a0 3)]) (ci := 4) (q0 := 0) rfl rfl (t_X4_wordsIn (a0 := a0) hc) Sub.same kw_869 kw_870 kw_871 kw_88 hy_X4_wordsIn kw_872 rfl (Nat.le_of_ble_eq_true rfl) (Nat.le_of_ble_eq_true rfl) (Nat.le_of_ble_eq_true rfl) (Nat.le_of_ble_eq_true rfl) (Nat.le_of_ble_eq_true rfl) dX4_go_28 ?_
    refine g_ior (pc := 31) C dX4_go_31 ?_
    obtain ⟨hi, h⟩ := ix_of h
    refine g_iast (pc := 32) C (w' := cs_X4 J.2.2.1 a0 s_year s_wet s_lost s_eaten s_tied s_ripeMany s_gone (upd s_place n1.toNatClampNeg n2) (upd s_heard n1.toNatClampNeg ((s_heard n1.toNatClampNeg) ||| v1)) s_many s_lying s_ripe) 3 rfl hi dX4_go_32 rfl ?_
    refine g_iconst (pc := 33) C dX4_go_33 ci_1 ?_
    cases h
    exact g_zret C rfl E dX4_go_34
  · refine g_iconst (pc := 10) C dX4_go_10 ci_0 ?_
    cases h
    exact g_zret C rfl E dX4_go_11
noncomputable def f_X4_clearBed (s_eaten : Int32) (s_many : Nat → Int32) (n1 : Int32) : Option (Int32 × Int32 × (Nat → Int32)) := if ixb n1 6 then if (s_many n1.toNatClampNeg) = 0 then some (0, s_eaten, s_many) else if ixb n1 6 then if ixb n1 6 then some (1, s_eaten + (s_many n1.toNatClampNeg), upd s_many n1.toNatClampNeg 0) else none else none else none
def rm_X4_clearBed : Room := { frames := 0, cells := 0, slots := 0, locals := 0 }
set_option maxRecDepth 100000 in
set_option maxHeartbeats 4000000 in
theorem t_X4_clearBed {J : Jt} {a0 : Nat → Nat} {s_year : Int32} {s_wet : Int32} {s_lost : Int32} {s_eaten : Int32} {s_tied : Int32} {s_ripeMany : Int32} {s_gone : Nat → Int32} {s_place : Nat → Int32} {s_heard : Nat → Int32} {s_many : Nat → Int32} {s_lying : Nat → Int32} {s_ripe : Nat → Int32} {n1 : Int32} {r : Int32} {o_s_eaten : Int32} {o_s_many : Nat → Int32} (h : f_X4_clearBed s_eaten s_many n1 = some (r, o_s_eaten, o_s_many)) : Mt J yX4_clearBed cX4_clearBed 2 (some .boolean) rm_X4_clearBed [.ref (a0 0), .int n1] (cs_X4 J.2.2.1 a0 s_year s_wet s_lost s_eaten s_tied s_ripeMany s_gone s_place s_heard s_many s_lying s_ripe) (some (.int r)) (cs_X4 J.2.2.1 a0 s_year s_wet s_lost o_s_eaten s_tied s_ripeMany s_gone s_place s_heard o_s_many s_lying s_ripe) := by
  refine Mt_of (own := RX4) (by decide) rfl (Nat.le_of_ble_eq_true rfl) rfl (fun Z C E => ?_)
  unfold f_X4_clearBed at h
  show G J Z 0 0 (cs_X4 J.2.2.1 a0 s_year s_wet s_lost s_eaten s_tied s_ripeMany s_gone s_place s_heard s_many s_lying s_ripe) 2 [(0, .ref (a0 0)), (1, .int n1)] 0 []
  refine g_aload_n (pc := 0) C 0 rfl dX4_clearBed_0 ?_
  refine g_get (pc := 1) C FOK_X4 0 rfl rfl 9 (by decide) kw_172 rfl dX4_clearBed_1 ?_
  refine g_iload_n (pc := 4) C 1 rfl dX4_clearBed_4 ?_
  obtain ⟨hi, h⟩ := ix_of h
  refine g_iald (pc := 5) C 4 rfl hi dX4_clearBed_5 ?_
  refine g_if_ne (pc := 6) C (tgt := 11) dX4_clearBed_6 rfl h (fun h => ?_) (fun h => ?_)
  · refine g_aload_n (pc := 11) C 0 rfl dX4_clearBed_11 ?_
    refine g_dup (pc := 12) C dX4_clearBed_12 rfl ?_
    refine g_get (pc := 13) C FOK_X4 0 rfl rfl 3 (by decide) kw_161 rfl dX4_clearBed_13 ?_
    refine g_aload_n (pc := 16) C 0 rfl dX4_clearBed_16 ?_
    refine g_get (pc := 17) C FOK_X4 0 rfl rfl 9 (by decide) kw_172 rfl dX4_clearBed_17 ?_
    refine g_iload_n (pc := 20) C 1 rfl dX4_clearBed_20 ?_
    obtain ⟨hi, h⟩ := ix_of h
    refine g_iald (pc := 21) C 4 rfl hi dX4_clearBed_21 ?_
    refine g_iadd (pc := 22) C dX4_clearBed_22 ?_
    refine g_put (pc := 23) C (w' := cs_X4 J.2.2.1 a0 s_year s_wet s_lost (s_eaten + (s_many n1.toNatClampNeg)) s_tied s_ripeMany s_gone s_place s_heard s_many s_lying s_ripe) FOK_X4 0 rfl rfl 3 (by decide) kw_161 rfl rfl rfl (Nat.le_of_ble_eq_true rfl) dX4_clearBed_23 rfl ?_
    refine g_aload_n (pc := 26) C 0 rfl dX4_clearBed_26 ?_
    refine g_get (pc := 27) C FOK_X4 0 rfl rfl 9 (by decide) kw_172 rfl dX4_clearBed_27 ?_
    refine g_iload_n (pc := 30) C 1 rfl dX4_clearBed_30 ?_
    refine g_iconst (pc := 31) C dX4_clearBed_31 ci_0 ?_
    obtain ⟨hi, h⟩ := ix_of h
    refine g_iast (pc := 32) C (w' := cs_X4 J.2.2.1 a0 s_year s_wet s_lost (s_eaten + (s_many n1.toNatClampNeg)) s_tied s_ripeMany s_gone s_place s_heard (upd s_many n1.toNatClampNeg 0) s_lying s_ripe) 4 rfl hi dX4_clearBed_32 rfl ?_
    refine g_iconst (pc := 33) C dX4_clearBed_33 ci_1 ?_
    cases h
    exact g_zret C rfl E dX4_clearBed_34
  · refine g_iconst (pc := 9) C dX4_clearBed_9 ci_0 ?_
    cases h
    exact g_zret C rfl E dX4_clearBed_10
noncomputable def f_X4_ripen_30   (n1 : Int32) (s_ripeMany : Int32) (s_ripe : Nat → Int32) : Option (Int32 × (Nat → Int32)) := if ixb s_ripeMany 60 then some (s_ripeMany + 1, upd s_ripe s_ripeMany.toNatClampNeg n1) else none
noncomputable def f_X4_ripen (s_ripeMany : Int32) (s_ripe : Nat → Int32) (n1 : Int32) : Option (Int32 × (Nat → Int32)) := if s_ripeMany < 60 then f_X4_ripen_30 n1 s_ripeMany s_ripe else if cpb 1 0 59 60 60 then f_X4_ripen_30 n1 59 (va_cpy s_ripe s_ripe (1 : Int32).toNatClampNeg (0 : Int32).toNatClampNeg (59 : Int32).toNatClampNeg) else none
def rm_X4_ripen : Room := { frames := 1, cells := 0, slots := 0, locals := 80 }
set_option maxRecDepth 100000 in
set_option maxHeartbeats 4000000 in
theorem j_X4_ripen_30 {J : Jt} {Z : Zt} {a0 : Nat → Nat} {s_year : Int32} {s_wet : Int32} {s_lost : Int32} {s_eaten : Int32} {s_tied : Int32} {s_gone : Nat → Int32} {s_place : Nat → Int32} {s_heard : Nat → Int32} {s_many : Nat → Int32} {s_lying : Nat → Int32} {n1 : Int32} {o_s_ripeMany : Int32} {o_s_ripe : Nat → Int32} (C : Cx J Z cX4_ripen 2 RX4 none rm_X4_ripen) (E : Ez J Z 0 0 none (cs_X4 J.2.2.1 a0 s_year s_wet s_lost s_eaten s_tied o_s_ripeMany s_gone s_place s_heard s_many s_lying o_s_ripe)) : ∀ (s_ripeMany : Int32) (s_ripe : Nat → Int32), f_X4_ripen_30 n1 s_ripeMany s_ripe = some (o_s_ripeMany, o_s_ripe) → G J Z 0 0 (cs_X4 J.2.2.1 a0 s_year s_wet s_lost s_eaten s_tied s_ripeMany s_gone s_place s_heard s_many s_lying s_ripe) 2 [(0, .ref (a0 0)), (1, .int n1)] 30 [] := by
  intro s_ripeMany s_ripe h
  unfold f_X4_ripen_30 at h
  refine g_aload_n (pc := 30) C 0 rfl dX4_ripen_30 ?_
  refine g_get (pc := 31) C FOK_X4 0 rfl rfl 11 (by decide) kw_175 rfl dX4_ripen_31 ?_
  refine g_aload_n (pc := 34) C 0 rfl dX4_ripen_34 ?_
  refine g_get (pc := 35) C FOK_X4 0 rfl rfl 5 (by decide) kw_165 rfl dX4_ripen_35 ?_
  refine g_iload_n (pc := 38) C 1 rfl dX4_ripen_38 ?_
  obtain ⟨hi, h⟩ := ix_of h
  refine g_iast (pc := 39) C (w' := cs_X4 J.2.2.1 a0 s_year s_wet s_lost s_eaten s_tied s_ripeMany s_gone s_place s_heard s_many s_lying (upd s_ripe s_ripeMany.toNatClampNeg n1)) 6 rfl hi dX4_ripen_39 rfl ?_
  refine g_aload_n (pc := 40) C 0 rfl dX4_ripen_40 ?_
  refine g_dup (pc := 41) C dX4_ripen_41 rfl ?_
  refine g_get (pc := 42) C FOK_X4 0 rfl rfl 5 (by decide) kw_165 rfl dX4_ripen_42 ?_
  refine g_iconst (pc := 45) C dX4_ripen_45 ci_1 ?_
  refine g_iadd (pc := 46) C dX4_ripen_46 ?_
  refine g_put (pc := 47) C (w' := cs_X4 J.2.2.1 a0 s_year s_wet s_lost s_eaten s_tied (s_ripeMany + 1) s_gone s_place s_heard s_many s_lying (upd s_ripe s_ripeMany.toNatClampNeg n1)) FOK_X4 0 rfl rfl 5 (by decide) kw_165 rfl rfl rfl (Nat.le_of_ble_eq_true rfl) dX4_ripen_47 rfl ?_
  cases h
  exact g_vret C E dX4_ripen_50
set_option maxRecDepth 100000 in
set_option maxHeartbeats 4000000 in
theorem t_X4_ripen {J : Jt} {a0 : Nat → Nat} {s_year : Int32} {s_wet : Int32} {s_lost : Int32} {s_eaten : Int32} {s_tied : Int32} {s_ripeMany : Int32} {s_gone : Nat → Int32} {s_place : Nat → Int32} {s_heard : Nat → Int32} {s_many : Nat → Int32} {s_lying : Nat → Int32} {s_ripe : Nat → Int32} {n1 : Int32} {o_s_ripeMany : Int32} {o_s_ripe : Nat → Int32} (h : f_X4_ripen s_ripeMany s_ripe n1 = some (o_s_ripeMany, o_s_ripe)) : Mt J yX4_ripen cX4_ripen 2 none rm_X4_ripen [.ref (a0 0), .int n1] (cs_X4 J.2.2.1 a0 s_year s_wet s_lost s_eaten s_tied s_ripeMany s_gone s_place s_heard s_many s_lying s_ripe) none (cs_X4 J.2.2.1 a0 s_year s_wet s_lost s_eaten s_tied o_s_ripeMany s_gone s_place s_heard s_many s_lying o_s_ripe) := by
  refine Mt_of (own := RX4) (by decide) rfl (Nat.le_of_ble_eq_true rfl) rfl (fun Z C E => ?_)
  unfold f_X4_ripen at h
  show G J Z 0 0 (cs_X4 J.2.2.1 a0 s_year s_wet s_lost s_eaten s_tied s_ripeMany s_gone s_place s_heard s_many s_lying s_ripe) 2 [(0, .ref (a0 0)), (1, .int n1)] 0 []
  refine g_aload_n (pc := 0) C 0 rfl dX4_ripen_0 ?_
  refine g_get (pc := 1) C FOK_X4 0 rfl rfl 5 (by decide) kw_165 rfl dX4_ripen_1 ?_
  refine g_bipush (pc := 4) C dX4_ripen_4 cb_60 ?_
  refine g_icmp_lt (pc := 6) C (tgt := 30) dX4_ripen_6 rfl h (fun h => ?_) (fun h => ?_)
  · exact j_X4_ripen_30 C E    s_ripeMany s_ripe h
  · refine g_aload_n (pc := 9) C 0 rfl dX4_ripen_9 ?_
    refine g_get (pc := 10) C FOK_X4 0 rfl rfl 11 (by decide) kw_175 rfl dX4_ripen_10 ?_
    refine g_iconst (pc := 13) C dX4_ripen_13 ci_1 ?_
    refine g_aload_n (pc := 14) C 0 rfl dX4_ripen_14 ?_
    refine g_get (pc := 15) C FOK_X4 0 rfl rfl 11 (by decide) kw_175 rfl dX4_ripen_15 ?_
    refine g_iconst (pc := 18) C dX4_ripen_18 ci_0 ?_
    refine g_bipush (pc := 19) C dX4_ripen_19 cb_59 ?_
    obtain ⟨hi, h⟩ := cp_of h
    refine g_copyi (pc := 21) C (w' := cs_X4 J.2.2.1 a0 s_year s_wet s_lost s_eaten s_tied s_ripeMany s_gone s_place s_heard s_many s_lying (va_cpy s_ripe s_ripe (1 : Int32).toNatClampNeg (0 : Int32).toNatClampNeg (59 : Int32).toNatClampNeg)) kw_449 kw_451 kw_450 kw_106 6 6 rfl rfl hi (Nat.le_of_ble_eq_true rfl) (Nat.le_of_ble_eq_true rfl) dX4_ripen_21 rfl ?_
    refine g_aload_n (pc := 24) C 0 rfl dX4_ripen_24 ?_
    refine g_bipush (pc := 25) C dX4_ripen_25 cb_59 ?_
    refine g_put (pc := 27) C (w' := cs_X4 J.2.2.1 a0 s_year s_wet s_lost s_eaten s_tied 59 s_gone s_place s_heard s_many s_lying (va_cpy s_ripe s_ripe (1 : Int32).toNatClampNeg (0 : Int32).toNatClampNeg (59 : Int32).toNatClampNeg)) FOK_X4 0 rfl rfl 5 (by decide) kw_165 rfl rfl rfl (Nat.le_of_ble_eq_true rfl) dX4_ripen_27 rfl ?_
    exact j_X4_ripen_30 C E    59 (va_cpy s_ripe s_ripe (1 : Int32).toNatClampNeg (0 : Int32).toNatClampNeg (59 : Int32).toNatClampNeg) h
noncomputable def f_X4_passYear_2  (p_beds : Int32) : Nat → Int32 → Int32 → Int32 → Int32 → (Nat → Int32) → (Nat → Int32) → (Nat → Int32) → Option (Int32 × Int32 × Int32 × (Nat → Int32) × (Nat → Int32) × (Nat → Int32))
  | 0, _, _, _, _, _, _, _ => none
  | n + 1, x2, s_year, s_wet, s_ripeMany, s_many, s_lying, s_ripe => if p_beds ≤ x2 then some (s_year + 1, s_wet / 2, s_ripeMany, s_many, s_lying, s_ripe) else if ixb x2 6 then if (s_many x2.toNatClampNeg) ≤ 0 then f_X4_passYear_2 p_beds n (x2 + 1) s_year s_wet s_ripeMany s_many s_lying s_ripe else b1 (f_X4_lyingAt s_many s_lying x2 0) (fun v1 => b2 (f_X4_ripen s_ripeMany s_ripe v1) (fun c2 c3 => if cpb ((x2 * 12) + 1) (x2 * 12) 11 72 72 then if ixb x2 6 then if ixb x2 6 then f_X4_passYear_2 p_beds n (x2 + 1) s_year s_wet c2 (upd s_many x2.toNatClampNeg ((s_many x2.toNatClampNeg) - 1)) (va_cpy s_lying s_lying ((x2 * 12) + 1).toNatClampNeg (x2 * 12).toNatClampNeg (11 : Int32).toNatClampNeg) c3 else none else none else none)) else none
noncomputable def f_X4_passYear (s_year : Int32) (s_wet : Int32) (s_ripeMany : Int32) (s_many : Nat → Int32) (s_lying : Nat → Int32) (s_ripe : Nat → Int32) (p_beds : Int32) : Option (Int32 × Int32 × Int32 × (Nat → Int32) × (Nat → Int32) × (Nat → Int32)) := f_X4_passYear_2 p_beds FU 0 s_year s_wet s_ripeMany s_many s_lying s_ripe
def rm_X4_passYear : Room := { frames := 2, cells := 0, slots := 0, locals := 101 }
set_option maxRecDepth 100000 in
set_option maxHeartbeats 4000000 in
theorem j_X4_passYear_2 {J : Jt} {Z : Zt} {a0 : Nat → Nat} {a1 : Nat → Nat} {s_lost : Int32} {s_eaten : Int32} {s_tied : Int32} {s_gone : Nat → Int32} {s_place : Nat → Int32} {s_heard : Nat → Int32} {p_beds : Int32} {p_letters : Int32} {p_readers : Int32} {p_far : Nat → Int32} {p_drain : Nat → Int32} {p_length : Nat → Int32} {p_words : Nat → Int32} {p_home : Nat → Int32} {o_s_year : Int32} {o_s_wet : Int32} {o_s_ripeMany : Int32} {o_s_many : Nat → Int32} {o_s_lying : Nat → Int32} {o_s_ripe : Nat → Int32} (C : Cx J Z cX4_passYear 3 RX4 none rm_X4_passYear) (E : Ez J Z 0 0 none (cs_X4 J.2.2.1 a0 o_s_year o_s_wet s_lost s_eaten s_tied o_s_ripeMany s_gone s_place s_heard o_s_many o_s_lying o_s_ripe ++ cs_X2 J.2.2.1 a1 p_beds p_letters p_readers p_far p_drain p_length p_words p_home)) : ∀ (n : Nat) (x2 : Int32) (s_year : Int32) (s_wet : Int32) (s_ripeMany : Int32) (s_many : Nat → Int32) (s_lying : Nat → Int32) (s_ripe : Nat → Int32), f_X4_passYear_2 p_beds n x2 s_year s_wet s_ripeMany s_many s_lying s_ripe = some (o_s_year, o_s_wet, o_s_ripeMany, o_s_many, o_s_lying, o_s_ripe) → G J Z 0 0 (cs_X4 J.2.2.1 a0 s_year s_wet s_lost s_eaten s_tied s_ripeMany s_gone s_place s_heard s_many s_lying s_ripe ++ cs_X2 J.2.2.1 a1 p_beds p_letters p_readers p_far p_drain p_length p_words p_home) 3 [(0, .ref (a0 0)), (1, .ref (a1 0)), (2, .int x2)] 2 [] := by
  intro n
  induction n with
  | zero =>
    intro x2 s_year s_wet s_ripeMany s_many s_lying s_ripe h
    rw [f_X4_passYear_2] at h
    cases h
  | succ n ih =>
    intro x2 s_year s_wet s_ripeMany s_many s_lying s_ripe h
    rw [f_X4_passYear_2] at h
    refine g_iload_n (pc := 2) C 2 rfl dX4_passYear_2 ?_
    refine g_aload_n (pc := 3) C 1 rfl dX4_passYear_3 ?_
    refine g_get (pc := 4) C FOK_X2 7 rfl rfl 0 (by decide) kw_280 rfl dX4_passYear_4 ?_
    refine g_icmp_ge (pc := 7) C (tgt := 68) dX4_passYear_7 rfl h (fun h => ?_) (fun h => ?_)
    · refine g_aload_n (pc := 68) C 0 rfl dX4_passYear_68 ?_
      refine g_dup (pc := 69) C dX4_passYear_69 rfl ?_
      refine g_get (pc := 70) C FOK_X4 0 rfl rfl 1 (by decide) kw_157 rfl dX4_passYear_70 ?_
      refine g_iconst (pc := 73) C dX4_passYear_73 ci_2 ?_
      refine g_idiv (pc := 74) C dX4_passYear_74 (by decide) ?_
      refine g_put (pc := 75) C (w' := cs_X4 J.2.2.1 a0 s_year (s_wet / 2) s_lost s_eaten s_tied s_ripeMany s_gone s_place s_heard s_many s_lying s_ripe ++ cs_X2 J.2.2.1 a1 p_beds p_letters p_readers p_far p_drain p_length p_words p_home) FOK_X4 0 rfl rfl 1 (by decide) kw_157 rfl rfl rfl (Nat.le_of_ble_eq_true rfl) dX4_passYear_75 rfl ?_
      refine g_aload_n (pc := 78) C 0 rfl dX4_passYear_78 ?_
      refine g_dup (pc := 79) C dX4_passYear_79 rfl ?_
      refine g_get (pc := 80) C FOK_X4 0 rfl rfl 0 (by decide) kw_154 rfl dX4_passYear_80 ?_
      refine g_iconst (pc := 83) C dX4_passYear_83 ci_1 ?_
      refine g_iadd (pc := 84) C dX4_passYear_84 ?_
      refine g_put (pc := 85) C (w' := cs_X4 J.2.2.1 a0 (s_year + 1) (s_wet / 2) s_lost s_eaten s_tied s_ripeMany s_gone s_place s_heard s_many s_lying s_ripe ++ cs_X2 J.2.2.1 a1 p_beds p_letters p_readers p_far p_drain p_length p_words p_home) FOK_X4 0 rfl rfl 0 (by decide) kw_154 rfl rfl rfl (Nat.le_of_ble_eq_true rfl) dX4_passYear_85 rfl ?_
      cases h
      exact g_vret C E dX4_passYear_88
    · refine g_aload_n (pc := 10) C 0 rfl dX4_passYear_10 ?_
      refine g_get (pc := 11) C FOK_X4 0 rfl rfl 9 (by decide) kw_172 rfl dX4_passYear_11 ?_
      refine g_iload_n (pc := 14) C 2 rfl dX4_passYear_14 ?_
      obtain ⟨hi, h⟩ := ix_of h
      refine g_iald (pc := 15) C 4 rfl hi dX4_passYear_15 ?_
      refine g_if_le (pc := 16) C (tgt := 62) dX4_passYear_16 rfl h (fun h => ?_) (fun h => ?_)
      · refine g_iinc (pc := 62) C (j := 2) [(2, .int (x2 + 1)), (0, .ref (a0 0)), (1, .ref (a1 0))] dX4_passYear_62 rfl (ii_1 _) (by decide) rfl ?_
        refine g_goto (pc := 65) C (tgt := 2) dX4_passYear_65 rfl ?_
        refine g_lv [1, 2, 0] rfl ?_
        exact ih (x2 + 1) s_year s_wet s_ripeMany s_many s_lying s_ripe h
      · refine g_aload_n (pc := 19) C 0 rfl dX4_passYear_19 ?_
        refine g_aload_n (pc := 20) C 0 rfl dX4_passYear_20 ?_
        refine g_iload_n (pc := 21) C 2 rfl dX4_passYear_21 ?_
        refine g_iconst (pc := 22) C dX4_passYear_22 ci_0 ?_
        obtain ⟨v1, hc, h⟩ := b1_of h
        refine g_callV (pc := 23) C (w' := cs_X4 J.2.2.1 a0 s_year s_wet s_lost s_eaten s_tied s_ripeMany s_gone s_place s_heard s_many s_lying s_ripe ++ cs_X2 J.2.2.1 a1 p_beds p_letters p_readers p_far p_drain p_length p_words p_home) (As := [.int x2, .int 0]) (st := [.ref (a0 0)]) (ci := 4) (q0 := 0) rfl rfl (t_X4_lyingAt (a0 := a0) hc) (Sub.gen [0, 1, 2, 3, 4, 5, 6] [7, 8, 9, 10, 11, 12] [6, 7, 8, 9, 10, 11, 12, 0, 1, 2, 3, 4, 5] rfl (by decide) rfl (by decide) (by decide) rfl (by decide)) kw_873 kw_874 kw_875 kw_88 hy_X4_lyingAt kw_876 rfl (Nat.le_of_ble_eq_true rfl) (Nat.le_of_ble_eq_true rfl) (Nat.le_of_ble_eq_true rfl) (Nat.le_of_ble_eq_true rfl) (Nat.le_of_ble_eq_true rfl) dX4_passYear_23 ?_
        obtain ⟨c2, c3, hc, h⟩ := b2_of h
        refine g_callV (pc := 26) C (w' := cs_X4 J.2.2.1 a0 s_year s_wet s_lost s_eaten s_tied c2 s_gone s_place s_heard s_many s_lying c3 ++ cs_X2 J.2.2.1 a1 p_beds p_letters p_readers p_far p_drain p_length p_words p_home) (As := [.int v1]) (st := []) (ci := 4) (q0 := 0) rfl rfl (t_X4_ripen (a0 := a0) hc) (Sub.gen [0, 1, 2, 3, 4, 5, 6] [7, 8, 9, 10, 11, 12] [6, 7, 8, 9, 10, 11, 12, 0, 1, 2, 3, 4, 5] rfl (by decide) rfl (by decide) (by decide) rfl (by decide)) kw_914 kw_915 kw_916 kw_88 hy_X4_ripen kw_917 rfl (Nat.le_of_ble_eq_true rfl) (Nat.le_of_ble_eq_true rfl) (Nat.le_of_ble_eq_true rfl) (Nat.le_of_ble_eq_true rfl) (Nat.le_of_ble_eq_true rfl) dX4_passYear_26 ?_
        refine g_aload_n (pc := 29) C 0 rfl dX4_passYear_29 ?_
        refine g_get (pc := 30) C FOK_X4 0 rfl rfl 10 (by decide) kw_174 rfl dX4_passYear_30 ?_
        refine g_iload_n (pc := 33) C 2 rfl dX4_passYear_33 ?_
        refine g_bipush (pc := 34) C dX4_passYear_34 cb_12 ?_
        refine g_imul (pc := 36) C dX4_passYear_36 ?_
        refine g_iconst (pc := 37) C dX4_passYear_37 ci_1 ?_
        refine g_iadd (pc := 38) C dX4_passYear_38 ?_
        refine g_aload_n (pc := 39) C 0 rfl dX4_passYear_39 ?_
        refine g_get (pc := 40) C FOK_X4 0 rfl rfl 10 (by decide) kw_174 rfl dX4_passYear_40 ?_
        refine g_iload_n (pc := 43) C 2 rfl dX4_passYear_43 ?_
        refine g_bipush (pc := 44) C dX4_passYear_44 cb_12 ?_
        refine g_imul (pc := 46) C dX4_passYear_46 ?_
        refine g_bipush (pc := 47) C dX4_passYear_47 cb_11 ?_
        obtain ⟨hi, h⟩ := cp_of h
        refine g_copyi (pc := 49) C (w' := cs_X4 J.2.2.1 a0 s_year s_wet s_lost s_eaten s_tied c2 s_gone s_place s_heard s_many (va_cpy s_lying s_lying ((x2 * 12) + 1).toNatClampNeg (x2 * 12).toNatClampNeg (11 : Int32).toNatClampNeg) c3 ++ cs_X2 J.2.2.1 a1 p_beds p_letters p_readers p_far p_drain p_length p_words p_home) kw_449 kw_451 kw_450 kw_106 5 5 rfl rfl hi (Nat.le_of_ble_eq_true rfl) (Nat.le_of_ble_eq_true rfl) dX4_passYear_49 rfl ?_
        refine g_aload_n (pc := 52) C 0 rfl dX4_passYear_52 ?_
        refine g_get (pc := 53) C FOK_X4 0 rfl rfl 9 (by decide) kw_172 rfl dX4_passYear_53 ?_
        refine g_iload_n (pc := 56) C 2 rfl dX4_passYear_56 ?_
        refine g_dup2 (pc := 57) C dX4_passYear_57 rfl rfl ?_
        obtain ⟨hi, h⟩ := ix_of h
        refine g_iald (pc := 58) C 4 rfl hi dX4_passYear_58 ?_
        refine g_iconst (pc := 59) C dX4_passYear_59 ci_1 ?_
        refine g_isub (pc := 60) C dX4_passYear_60 ?_
        obtain ⟨hi, h⟩ := ix_of h
        refine g_iast (pc := 61) C (w' := cs_X4 J.2.2.1 a0 s_year s_wet s_lost s_eaten s_tied c2 s_gone s_place s_heard (upd s_many x2.toNatClampNeg ((s_many x2.toNatClampNeg) - 1)) (va_cpy s_lying s_lying ((x2 * 12) + 1).toNatClampNeg (x2 * 12).toNatClampNeg (11 : Int32).toNatClampNeg) c3 ++ cs_X2 J.2.2.1 a1 p_beds p_letters p_readers p_far p_drain p_length p_words p_home) 4 rfl hi dX4_passYear_61 rfl ?_
        refine g_iinc (pc := 62) C (j := 2) [(2, .int (x2 + 1)), (0, .ref (a0 0)), (1, .ref (a1 0))] dX4_passYear_62 rfl (ii_1 _) (by decide) rfl ?_
        refine g_goto (pc := 65) C (tgt := 2) dX4_passYear_65 rfl ?_
        refine g_lv [1, 2, 0] rfl ?_
        exact ih (x2 + 1) s_year s_wet c2 (upd s_many x2.toNatClampNeg ((s_many x2.toNatClampNeg) - 1)) (va_cpy s_lying s_lying ((x2 * 12) + 1).toNatClampNeg (x2 * 12).toNatClampNeg (11 : Int32).toNatClampNeg) c3 h
set_option maxRecDepth 100000 in
set_option maxHeartbeats 4000000 in
theorem t_X4_passYear {J : Jt} {a0 : Nat → Nat} {a1 : Nat → Nat} {s_year : Int32} {s_wet : Int32} {s_lost : Int32} {s_eaten : Int32} {s_tied : Int32} {s_ripeMany : Int32} {s_gone : Nat → Int32} {s_place : Nat → Int32} {s_heard : Nat → Int32} {s_many : Nat → Int32} {s_lying : Nat → Int32} {s_ripe : Nat → Int32} {p_beds : Int32} {p_letters : Int32} {p_readers : Int32} {p_far : Nat → Int32} {p_drain : Nat → Int32} {p_length : Nat → Int32} {p_words : Nat → Int32} {p_home : Nat → Int32} {o_s_year : Int32} {o_s_wet : Int32} {o_s_ripeMany : Int32} {o_s_many : Nat → Int32} {o_s_lying : Nat → Int32} {o_s_ripe : Nat → Int32} (h : f_X4_passYear s_year s_wet s_ripeMany s_many s_lying s_ripe p_beds = some (o_s_year, o_s_wet, o_s_ripeMany, o_s_many, o_s_lying, o_s_ripe)) : Mt J yX4_passYear cX4_passYear 3 none rm_X4_passYear [.ref (a0 0), .ref (a1 0)] (cs_X4 J.2.2.1 a0 s_year s_wet s_lost s_eaten s_tied s_ripeMany s_gone s_place s_heard s_many s_lying s_ripe ++ cs_X2 J.2.2.1 a1 p_beds p_letters p_readers p_far p_drain p_length p_words p_home) none (cs_X4 J.2.2.1 a0 o_s_year o_s_wet s_lost s_eaten s_tied o_s_ripeMany s_gone s_place s_heard o_s_many o_s_lying o_s_ripe ++ cs_X2 J.2.2.1 a1 p_beds p_letters p_readers p_far p_drain p_length p_words p_home) := by
  refine Mt_of (own := RX4) (by decide) rfl (Nat.le_of_ble_eq_true rfl) rfl (fun Z C E => ?_)
  unfold f_X4_passYear at h
  show G J Z 0 0 (cs_X4 J.2.2.1 a0 s_year s_wet s_lost s_eaten s_tied s_ripeMany s_gone s_place s_heard s_many s_lying s_ripe ++ cs_X2 J.2.2.1 a1 p_beds p_letters p_readers p_far p_drain p_length p_words p_home) 3 [(0, .ref (a0 0)), (1, .ref (a1 0))] 0 []
  refine g_iconst (pc := 0) C dX4_passYear_0 ci_0 ?_
  refine g_istore_n (pc := 1) C [(2, .int 0), (0, .ref (a0 0)), (1, .ref (a1 0))] dX4_passYear_1 rfl (by decide) rfl ?_
  refine g_lv [1, 2, 0] rfl ?_
  exact j_X4_passYear_2 C E    FU 0 s_year s_wet s_ripeMany s_many s_lying s_ripe h
noncomputable def f_X5_worth_20  (f_seam : Nat → Int32) (f_toCome : Nat → Int32) (n1 : Int32) (n2 : Int32) (n3 : Int32) (y0 : Int32) : Option (Int32) := if ixb (((n3 &&& (((1 : Int32) <<< (n2 &&& 31)) ^^^ (-1))) * 6) + n2) 384 then some (y0 + (f_toCome (((n3 &&& (((1 : Int32) <<< (n2 &&& 31)) ^^^ (-1))) * 6) + n2).toNatClampNeg)) else none
noncomputable def f_X5_worth (f_seam : Nat → Int32) (f_toCome : Nat → Int32) (n1 : Int32) (n2 : Int32) (n3 : Int32) : Option (Int32) := if n1 = (-1) then f_X5_worth_20 f_seam f_toCome n1 n2 n3 0 else if ixb ((n1 * 6) + n2) 36 then f_X5_worth_20 f_seam f_toCome n1 n2 n3 (f_seam ((n1 * 6) + n2).toNatClampNeg) else none
def rm_X5_worth : Room := { frames := 0, cells := 0, slots := 0, locals := 0 }
set_option maxRecDepth 100000 in
set_option maxHeartbeats 4000000 in
theorem j_X5_worth_20 {J : Jt} {Z : Zt} {a0 : Nat → Nat} {f_order : Nat → Int32} {f_seam : Nat → Int32} {f_toCome : Nat → Int32} {f_places : Int32} {f_seams : Int32} {n1 : Int32} {n2 : Int32} {n3 : Int32} {r : Int32} (C : Cx J Z cX5_worth 5 RX5 (some .int) rm_X5_worth) (E : Ez J Z 0 0 (some (.int r)) (cs_X5 J.2.2.1 a0 f_order f_seam f_toCome f_places f_seams)) : ∀ (y0 : Int32), f_X5_worth_20 f_seam f_toCome n1 n2 n3 y0 = some r → G J Z 0 0 (cs_X5 J.2.2.1 a0 f_order f_seam f_toCome f_places f_seams) 5 [(0, .ref (a0 0)), (2, .int n2), (3, .int n3)] 20 [.int y0] := by
  intro y0 h
  unfold f_X5_worth_20 at h
  refine g_istore (pc := 20) C [(4, .int y0), (0, .ref (a0 0)), (2, .int n2), (3, .int n3)] dX5_worth_20 (by decide) rfl ?_
  refine g_iload (pc := 22) C 0 rfl dX5_worth_22 ?_
  refine g_aload_n (pc := 24) C 1 rfl dX5_worth_24 ?_
  refine g_get (pc := 25) C FOK_X5 0 rfl rfl 2 (by decide) kw_251 rfl dX5_worth_25 ?_
  refine g_iload_n (pc := 28) C 3 rfl dX5_worth_28 ?_
  refine g_iconst (pc := 29) C dX5_worth_29 ci_1 ?_
  refine g_iload_n (pc := 30) C 2 rfl dX5_worth_30 ?_
  refine g_ishl (pc := 31) C dX5_worth_31 ?_
  refine g_iconst (pc := 32) C dX5_worth_32 ci_m1 ?_
  refine g_ixor (pc := 33) C dX5_worth_33 ?_
  refine g_iand (pc := 34) C dX5_worth_34 ?_
  refine g_bipush (pc := 35) C dX5_worth_35 cb_6 ?_
  refine g_imul (pc := 37) C dX5_worth_37 ?_
  refine g_iload_n (pc := 38) C 2 rfl dX5_worth_38 ?_
  refine g_iadd (pc := 39) C dX5_worth_39 ?_
  obtain ⟨hi, h⟩ := ix_of h
  refine g_iald (pc := 40) C 3 rfl hi dX5_worth_40 ?_
  refine g_iadd (pc := 41) C dX5_worth_41 ?_
  cases h
  exact g_iret C E dX5_worth_42
set_option maxRecDepth 100000 in
set_option maxHeartbeats 4000000 in
theorem t_X5_worth {J : Jt} {a0 : Nat → Nat} {f_order : Nat → Int32} {f_seam : Nat → Int32} {f_toCome : Nat → Int32} {f_places : Int32} {f_seams : Int32} {n1 : Int32} {n2 : Int32} {n3 : Int32} {r : Int32} (h : f_X5_worth f_seam f_toCome n1 n2 n3 = some r) : Mt J yX5_worth cX5_worth 5 (some .int) rm_X5_worth [.ref (a0 0), .int n1, .int n2, .int n3] (cs_X5 J.2.2.1 a0 f_order f_seam f_toCome f_places f_seams) (some (.int r)) (cs_X5 J.2.2.1 a0 f_order f_seam f_toCome f_places f_seams) := by
  refine Mt_of (own := RX5) (by decide) rfl (Nat.le_of_ble_eq_true rfl) rfl (fun Z C E => ?_)
  unfold f_X5_worth at h
  show G J Z 0 0 (cs_X5 J.2.2.1 a0 f_order f_seam f_toCome f_places f_seams) 5 [(0, .ref (a0 0)), (1, .int n1), (2, .int n2), (3, .int n3)] 0 []
  refine g_iload_n (pc := 0) C 1 rfl dX5_worth_0 ?_
  refine g_iconst (pc := 1) C dX5_worth_1 ci_m1 ?_
  refine g_icmp_ne (pc := 2) C (tgt := 9) dX5_worth_2 rfl h (fun h => ?_) (fun h => ?_)
  · refine g_aload_n (pc := 9) C 0 rfl dX5_worth_9 ?_
    refine g_get (pc := 10) C FOK_X5 0 rfl rfl 1 (by decide) kw_250 rfl dX5_worth_10 ?_
    refine g_iload_n (pc := 13) C 1 rfl dX5_worth_13 ?_
    refine g_bipush (pc := 14) C dX5_worth_14 cb_6 ?_
    refine g_imul (pc := 16) C dX5_worth_16 ?_
    refine g_iload_n (pc := 17) C 2 rfl dX5_worth_17 ?_
    refine g_iadd (pc := 18) C dX5_worth_18 ?_
    obtain ⟨hi, h⟩ := ix_of h
    refine g_iald (pc := 19) C 2 rfl hi dX5_worth_19 ?_
    refine g_lv [0, 2, 3] rfl ?_
    exact j_X5_worth_20 C E    (f_seam ((n1 * 6) + n2).toNatClampNeg) h
  · refine g_iconst (pc := 5) C dX5_worth_5 ci_0 ?_
    refine g_goto (pc := 6) C (tgt := 20) dX5_worth_6 rfl ?_
    refine g_lv [0, 2, 3] rfl ?_
    exact j_X5_worth_20 C E    0 h
noncomputable def f_X5_bestBehind_5  (f_seam : Nat → Int32) (f_toCome : Nat → Int32) (n1 : Int32) (n2 : Int32) : Nat → Int32 → Int32 → Option (Int32)
  | 0, _, _ => none
  | n + 1, x3, x4 => if 6 ≤ x4 then some x3 else b1 (f_X9_has n2 x4) (fun v1 => if v1 = 0 then f_X5_bestBehind_5 f_seam f_toCome n1 n2 n x3 (x4 + 1) else if x3 = (-1) then f_X5_bestBehind_5 f_seam f_toCome n1 n2 n x4 (x4 + 1) else b1 (f_X5_worth f_seam f_toCome n1 x4 n2) (fun v2 => b1 (f_X5_worth f_seam f_toCome n1 x3 n2) (fun v3 => if v2 ≤ v3 then f_X5_bestBehind_5 f_seam f_toCome n1 n2 n x3 (x4 + 1) else f_X5_bestBehind_5 f_seam f_toCome n1 n2 n x4 (x4 + 1))))
noncomputable def f_X5_bestBehind (f_seam : Nat → Int32) (f_toCome : Nat → Int32) (n1 : Int32) (n2 : Int32) : Option (Int32) := f_X5_bestBehind_5 f_seam f_toCome n1 n2 FU (-1) 0
def rm_X5_bestBehind : Room := { frames := 1, cells := 0, slots := 0, locals := 24 }
set_option maxRecDepth 100000 in
set_option maxHeartbeats 4000000 in
theorem j_X5_bestBehind_5 {J : Jt} {Z : Zt} {a0 : Nat → Nat} {f_order : Nat → Int32} {f_seam : Nat → Int32} {f_toCome : Nat → Int32} {f_places : Int32} {f_seams : Int32} {n1 : Int32} {n2 : Int32} {r : Int32} (C : Cx J Z cX5_bestBehind 5 RX5 (some .int) rm_X5_bestBehind) (E : Ez J Z 0 0 (some (.int r)) (cs_X5 J.2.2.1 a0 f_order f_seam f_toCome f_places f_seams)) : ∀ (n : Nat) (x3 : Int32) (x4 : Int32), f_X5_bestBehind_5 f_seam f_toCome n1 n2 n x3 x4 = some r → G J Z 0 0 (cs_X5 J.2.2.1 a0 f_order f_seam f_toCome f_places f_seams) 5 [(0, .ref (a0 0)), (1, .int n1), (2, .int n2), (3, .int x3), (4, .int x4)] 5 [] := by
  intro n
  induction n with
  | zero =>
    intro x3 x4 h
    rw [f_X5_bestBehind_5] at h
    cases h
  | succ n ih =>
    intro x3 x4 h
    rw [f_X5_bestBehind_5] at h
    refine g_iload (pc := 5) C 4 rfl dX5_bestBehind_5 ?_
    refine g_bipush (pc := 7) C dX5_bestBehind_7 cb_6 ?_
    refine g_icmp_ge (pc := 9) C (tgt := 53) dX5_bestBehind_9 rfl h (fun h => ?_) (fun h => ?_)
    · refine g_iload_n (pc := 53) C 3 rfl dX5_bestBehind_53 ?_
      cases h
      exact g_iret C E dX5_bestBehind_54
    · refine g_iload_n (pc := 12) C 2 rfl dX5_bestBehind_12 ?_
      refine g_iload (pc := 13) C 4 rfl dX5_bestBehind_13 ?_
      obtain ⟨v1, hc, h⟩ := b1_of h
      refine g_callSN (pc := 15) C (w' := cs_X5 J.2.2.1 a0 f_order f_seam f_toCome f_places f_seams) (As := [.int n2, .int x4]) (st := []) (t_X9_has hc) Sub.nil (by decide) kw_483 kw_86 hn_X9_has kw_484 rfl (Nat.le_of_ble_eq_true rfl) (Nat.le_of_ble_eq_true rfl) (Nat.le_of_ble_eq_true rfl) (Nat.le_of_ble_eq_true rfl) (Nat.le_of_ble_eq_true rfl) dX5_bestBehind_15 ?_
      refine g_if_eq (pc := 18) C (tgt := 47) dX5_bestBehind_18 rfl h (fun h => ?_) (fun h => ?_)
      · refine g_iinc (pc := 47) C (j := 4) [(4, .int (x4 + 1)), (0, .ref (a0 0)), (1, .int n1), (2, .int n2), (3, .int x3)] dX5_bestBehind_47 rfl (ii_1 _) (by decide) rfl ?_
        refine g_goto (pc := 50) C (tgt := 5) dX5_bestBehind_50 rfl ?_
        refine g_lv [1, 2, 3, 4, 0] rfl ?_
        exact ih x3 (x4 + 1) h
      · refine g_iload_n (pc := 21) C 3 rfl dX5_bestBehind_21 ?_
        refine g_iconst (pc := 22) C dX5_bestBehind_22 ci_m1 ?_
        refine g_icmp_eq (pc := 23) C (tgt := 44) dX5_bestBehind_23 rfl h (fun h => ?_) (fun h => ?_)
        · refine g_iload (pc := 44) C 4 rfl dX5_bestBehind_44 ?_
          refine g_istore_n (pc := 46) C [(3, .int x4), (0, .ref (a0 0)), (1, .int n1), (2, .int n2), (4, .int x4)] dX5_bestBehind_46 rfl (by decide) rfl ?_
          refine g_iinc (pc := 47) C (j := 4) [(4, .int (x4 + 1)), (3, .int x4), (0, .ref (a0 0)), (1, .int n1), (2, .int n2)] dX5_bestBehind_47 rfl (ii_1 _) (by decide) rfl ?_
          refine g_goto (pc := 50) C (tgt := 5) dX5_bestBehind_50 rfl ?_
          refine g_lv [2, 3, 4, 1, 0] rfl ?_
          exact ih x4 (x4 + 1) h
        · refine g_aload_n (pc := 26) C 0 rfl dX5_bestBehind_26 ?_
          refine g_iload_n (pc := 27) C 1 rfl dX5_bestBehind_27 ?_
          refine g_iload (pc := 28) C 4 rfl dX5_bestBehind_28 ?_
          refine g_iload_n (pc := 30) C 2 rfl dX5_bestBehind_30 ?_
          obtain ⟨v2, hc, h⟩ := b1_of h
          refine g_callV (pc := 31) C (w' := cs_X5 J.2.2.1 a0 f_order f_seam f_toCome f_places f_seams) (As := [.int n1, .int x4, .int n2]) (st := []) (ci := 5) (q0 := 0) rfl rfl (t_X5_worth (a0 := a0) hc) Sub.same kw_485 kw_486 kw_487 kw_91 hy_X5_worth kw_488 rfl (Nat.le_of_ble_eq_true rfl) (Nat.le_of_ble_eq_true rfl) (Nat.le_of_ble_eq_true rfl) (Nat.le_of_ble_eq_true rfl) (Nat.le_of_ble_eq_true rfl) dX5_bestBehind_31 ?_
          refine g_aload_n (pc := 34) C 0 rfl dX5_bestBehind_34 ?_
          refine g_iload_n (pc := 35) C 1 rfl dX5_bestBehind_35 ?_
          refine g_iload_n (pc := 36) C 3 rfl dX5_bestBehind_36 ?_
          refine g_iload_n (pc := 37) C 2 rfl dX5_bestBehind_37 ?_
          obtain ⟨v3, hc, h⟩ := b1_of h
          refine g_callV (pc := 38) C (w' := cs_X5 J.2.2.1 a0 f_order f_seam f_toCome f_places f_seams) (As := [.int n1, .int x3, .int n2]) (st := [.int v2]) (ci := 5) (q0 := 0) rfl rfl (t_X5_worth (a0 := a0) hc) Sub.same kw_485 kw_486 kw_487 kw_91 hy_X5_worth kw_488 rfl (Nat.le_of_ble_eq_true rfl) (Nat.le_of_ble_eq_true rfl) (Nat.le_of_ble_eq_true rfl) (Nat.le_of_ble_eq_true rfl) (Nat.le_of_ble_eq_true rfl) dX5_bestBehind_38 ?_
          refine g_icmp_le (pc := 41) C (tgt := 47) dX5_bestBehind_41 rfl h (fun h => ?_) (fun h => ?_)
          · refine g_iinc (pc := 47) C (j := 4) [(4, .int (x4 + 1)), (0, .ref (a0 0)), (1, .int n1), (2, .int n2), (3, .int x3)] dX5_bestBehind_47 rfl (ii_1 _) (by decide) rfl ?_
            refine g_goto (pc := 50) C (tgt := 5) dX5_bestBehind_50 rfl ?_
            refine g_lv [1, 2, 3, 4, 0] rfl ?_
            exact ih x3 (x4 + 1) h
          · refine g_iload (pc := 44) C 4 rfl dX5_bestBehind_44 ?_
            refine g_istore_n (pc := 46) C [(3, .int x4), (0, .ref (a0 0)), (1, .int n1), (2, .int n2), (4, .int x4)] dX5_bestBehind_46 rfl (by decide) rfl ?_
            refine g_iinc (pc := 47) C (j := 4) [(4, .int (x4 + 1)), (3, .int x4), (0, .ref (a0 0)), (1, .int n1), (2, .int n2)] dX5_bestBehind_47 rfl (ii_1 _) (by decide) rfl ?_
            refine g_goto (pc := 50) C (tgt := 5) dX5_bestBehind_50 rfl ?_
            refine g_lv [2, 3, 4, 1, 0] rfl ?_
            exact ih x4 (x4 + 1) h
set_option maxRecDepth 100000 in
set_option maxHeartbeats 4000000 in
theorem t_X5_bestBehind {J : Jt} {a0 : Nat → Nat} {f_order : Nat → Int32} {f_seam : Nat → Int32} {f_toCome : Nat → Int32} {f_places : Int32} {f_seams : Int32} {n1 : Int32} {n2 : Int32} {r : Int32} (h : f_X5_bestBehind f_seam f_toCome n1 n2 = some r) : Mt J yX5_bestBehind cX5_bestBehind 5 (some .int) rm_X5_bestBehind [.ref (a0 0), .int n1, .int n2] (cs_X5 J.2.2.1 a0 f_order f_seam f_toCome f_places f_seams) (some (.int r)) (cs_X5 J.2.2.1 a0 f_order f_seam f_toCome f_places f_seams) := by
  refine Mt_of (own := RX5) (by decide) rfl (Nat.le_of_ble_eq_true rfl) rfl (fun Z C E => ?_)
  unfold f_X5_bestBehind at h
  show G J Z 0 0 (cs_X5 J.2.2.1 a0 f_order f_seam f_toCome f_places f_seams) 5 [(0, .ref (a0 0)), (1, .int n1), (2, .int n2)] 0 []
  refine g_iconst (pc := 0) C dX5_bestBehind_0 ci_m1 ?_
  refine g_istore_n (pc := 1) C [(3, .int (-1)), (0, .ref (a0 0)), (1, .int n1), (2, .int n2)] dX5_bestBehind_1 rfl (by decide) rfl ?_
  refine g_iconst (pc := 2) C dX5_bestBehind_2 ci_0 ?_
  refine g_istore (pc := 3) C [(4, .int 0), (3, .int (-1)), (0, .ref (a0 0)), (1, .int n1), (2, .int n2)] dX5_bestBehind_3 (by decide) rfl ?_
  refine g_lv [2, 3, 4, 1, 0] rfl ?_
  exact j_X5_bestBehind_5 C E    FU (-1) 0 h
noncomputable def f_X5_choose_64  (f_seam : Nat → Int32) (f_toCome : Nat → Int32) (n1 : Int32) (k17 : Int32 → Int32 → Int32 → (Nat → Int32) → Int32 → Int32 → Option ((Nat → Int32) × Int32 × Int32)) (x2 : Int32) (x4 : Int32) (x5 : Int32) (y1 : Int32) (f_order : Nat → Int32) (f_places : Int32) (f_seams : Int32) : Option ((Nat → Int32) × Int32 × Int32) := if ixb x4 6 then k17 (x2 &&& (((1 : Int32) <<< (x5 &&& 31)) ^^^ (-1))) x5 (x4 + 1) (upd f_order x4.toNatClampNeg x5) (f_places + 1) y1 else none
noncomputable def f_X5_choose_17  (f_seam : Nat → Int32) (f_toCome : Nat → Int32) (n1 : Int32) : Nat → Int32 → Int32 → Int32 → (Nat → Int32) → Int32 → Int32 → Option ((Nat → Int32) × Int32 × Int32)
  | 0, _, _, _, _, _, _ => none
  | n + 1, x2, x3, x4, f_order, f_places, f_seams => if 6 ≤ x4 then some (f_order, f_places, f_seams) else if x2 = 0 then some (f_order, f_places, f_seams) else b1 (f_X5_bestBehind f_seam f_toCome x3 x2) (fun v1 => if v1 = (-1) then some (f_order, f_places, f_seams) else if x4 = 0 then b1 (f_X5_worth f_seam f_toCome x3 v1 x2) (fun v2 => f_X5_choose_64 f_seam f_toCome n1 (f_X5_choose_17 f_seam f_toCome n1 n) x2 x4 v1 v2 f_order f_places f_seams) else f_X5_choose_64 f_seam f_toCome n1 (f_X5_choose_17 f_seam f_toCome n1 n) x2 x4 v1 f_seams f_order f_places f_seams)
noncomputable def f_X5_choose (f_order : Nat → Int32) (f_seam : Nat → Int32) (f_toCome : Nat → Int32) (f_places : Int32) (f_seams : Int32) (n1 : Int32) : Option ((Nat → Int32) × Int32 × Int32) := f_X5_choose_17 f_seam f_toCome n1 FU n1 (-1) 0 f_order 0 0
def rm_X5_choose : Room := { frames := 2, cells := 0, slots := 0, locals := 48 }
set_option maxRecDepth 100000 in
set_option maxHeartbeats 4000000 in
theorem j_X5_choose_64 {J : Jt} {Z : Zt} {a0 : Nat → Nat} {f_seam : Nat → Int32} {f_toCome : Nat → Int32} {n1 : Int32} {o_f_order : Nat → Int32} {o_f_places : Int32} {o_f_seams : Int32} {k17 : Int32 → Int32 → Int32 → (Nat → Int32) → Int32 → Int32 → Option ((Nat → Int32) × Int32 × Int32)} (C : Cx J Z cX5_choose 6 RX5 none rm_X5_choose) (E : Ez J Z 0 0 none (cs_X5 J.2.2.1 a0 o_f_order f_seam f_toCome o_f_places o_f_seams)) (hk17 : ∀ (x2 : Int32) (x3 : Int32) (x4 : Int32) (f_order : Nat → Int32) (f_places : Int32) (f_seams : Int32), k17 x2 x3 x4 f_order f_places f_seams = some (o_f_order, o_f_places, o_f_seams) → G J Z 0 0 (cs_X5 J.2.2.1 a0 f_order f_seam f_toCome f_places f_seams) 6 [(0, .ref (a0 0)), (2, .int x2), (3, .int x3), (4, .int x4)] 17 []) : ∀ (x2 : Int32) (x4 : Int32) (x5 : Int32) (y1 : Int32) (f_order : Nat → Int32) (f_places : Int32) (f_seams : Int32), f_X5_choose_64 f_seam f_toCome n1 k17 x2 x4 x5 y1 f_order f_places f_seams = some (o_f_order, o_f_places, o_f_seams) → G J Z 0 0 (cs_X5 J.2.2.1 a0 f_order f_seam f_toCome f_places f_seams) 6 [(0, .ref (a0 0)), (2, .int x2), (4, .int x4), (5, .int x5)] 64 [.int y1, .ref (a0 0)] := by
  intro x2 x4 x5 y1 f_order f_places f_seams h
  unfold f_X5_choose_64 at h
  refine g_put (pc := 64) C (w' := cs_X5 J.2.2.1 a0 f_order f_seam f_toCome f_places y1) FOK_X5 0 rfl rfl 4 (by decide) kw_254 rfl rfl rfl (Nat.le_of_ble_eq_true rfl) dX5_choose_64 rfl ?_
  refine g_aload_n (pc := 67) C 0 rfl dX5_choose_67 ?_
  refine g_get (pc := 68) C FOK_X5 0 rfl rfl 0 (by decide) kw_248 rfl dX5_choose_68 ?_
  refine g_iload (pc := 71) C 2 rfl dX5_choose_71 ?_
  refine g_iload (pc := 73) C 3 rfl dX5_choose_73 ?_
  obtain ⟨hi, h⟩ := ix_of h
  refine g_iast (pc := 75) C (w' := cs_X5 J.2.2.1 a0 (upd f_order x4.toNatClampNeg x5) f_seam f_toCome f_places y1) 1 rfl hi dX5_choose_75 rfl ?_
  refine g_aload_n (pc := 76) C 0 rfl dX5_choose_76 ?_
  refine g_dup (pc := 77) C dX5_choose_77 rfl ?_
  refine g_get (pc := 78) C FOK_X5 0 rfl rfl 3 (by decide) kw_252 rfl dX5_choose_78 ?_
  refine g_iconst (pc := 81) C dX5_choose_81 ci_1 ?_
  refine g_iadd (pc := 82) C dX5_choose_82 ?_
  refine g_put (pc := 83) C (w' := cs_X5 J.2.2.1 a0 (upd f_order x4.toNatClampNeg x5) f_seam f_toCome (f_places + 1) y1) FOK_X5 0 rfl rfl 3 (by decide) kw_252 rfl rfl rfl (Nat.le_of_ble_eq_true rfl) dX5_choose_83 rfl ?_
  refine g_iload_n (pc := 86) C 1 rfl dX5_choose_86 ?_
  refine g_iconst (pc := 87) C dX5_choose_87 ci_1 ?_
  refine g_iload (pc := 88) C 3 rfl dX5_choose_88 ?_
  refine g_ishl (pc := 90) C dX5_choose_90 ?_
  refine g_iconst (pc := 91) C dX5_choose_91 ci_m1 ?_
  refine g_ixor (pc := 92) C dX5_choose_92 ?_
  refine g_iand (pc := 93) C dX5_choose_93 ?_
  refine g_istore_n (pc := 94) C [(2, .int (x2 &&& (((1 : Int32) <<< (x5 &&& 31)) ^^^ (-1)))), (0, .ref (a0 0)), (4, .int x4), (5, .int x5)] dX5_choose_94 rfl (by decide) rfl ?_
  refine g_iload (pc := 95) C 3 rfl dX5_choose_95 ?_
  refine g_istore_n (pc := 97) C [(3, .int x5), (2, .int (x2 &&& (((1 : Int32) <<< (x5 &&& 31)) ^^^ (-1)))), (0, .ref (a0 0)), (4, .int x4), (5, .int x5)] dX5_choose_97 rfl (by decide) rfl ?_
  refine g_iinc (pc := 98) C (j := 3) [(4, .int (x4 + 1)), (3, .int x5), (2, .int (x2 &&& (((1 : Int32) <<< (x5 &&& 31)) ^^^ (-1)))), (0, .ref (a0 0)), (5, .int x5)] dX5_choose_98 rfl (ii_1 _) (by decide) rfl ?_
  refine g_goto (pc := 101) C (tgt := 17) dX5_choose_101 rfl ?_
  refine g_lv [3, 2, 1, 0] rfl ?_
  exact hk17 (x2 &&& (((1 : Int32) <<< (x5 &&& 31)) ^^^ (-1))) x5 (x4 + 1) (upd f_order x4.toNatClampNeg x5) (f_places + 1) y1 h
set_option maxRecDepth 100000 in
set_option maxHeartbeats 4000000 in
theorem j_X5_choose_17 {J : Jt} {Z : Zt} {a0 : Nat → Nat} {f_seam : Nat → Int32} {f_toCome : Nat → Int32} {n1 : Int32} {o_f_order : Nat → Int32} {o_f_places : Int32} {o_f_seams : Int32} (C : Cx J Z cX5_choose 6 RX5 none rm_X5_choose) (E : Ez J Z 0 0 none (cs_X5 J.2.2.1 a0 o_f_order f_seam f_toCome o_f_places o_f_seams)) : ∀ (n : Nat) (x2 : Int32) (x3 : Int32) (x4 : Int32) (f_order : Nat → Int32) (f_places : Int32) (f_seams : Int32), f_X5_choose_17 f_seam f_toCome n1 n x2 x3 x4 f_order f_places f_seams = some (o_f_order, o_f_places, o_f_seams) → G J Z 0 0 (cs_X5 J.2.2.1 a0 f_order f_seam f_toCome f_places f_seams) 6 [(0, .ref (a0 0)), (2, .int x2), (3, .int x3), (4, .int x4)] 17 [] := by
  intro n
  induction n with
  | zero =>
    intro x2 x3 x4 f_order f_places f_seams h
    rw [f_X5_choose_17] at h
    cases h
  | succ n ih =>
    intro x2 x3 x4 f_order f_places f_seams h
    rw [f_X5_choose_17] at h
    refine g_iload (pc := 17) C 3 rfl dX5_choose_17 ?_
    refine g_bipush (pc := 19) C dX5_choose_19 cb_6 ?_
    refine g_icmp_ge (pc := 21) C (tgt := 104) dX5_choose_21 rfl h (fun h => ?_) (fun h => ?_)
    · cases h
      exact g_vret C E dX5_choose_104
    · refine g_iload_n (pc := 24) C 1 rfl dX5_choose_24 ?_
      refine g_if_eq (pc := 25) C (tgt := 104) dX5_choose_25 rfl h (fun h => ?_) (fun h => ?_)
      · cases h
        exact g_vret C E dX5_choose_104
      · refine g_aload_n (pc := 28) C 0 rfl dX5_choose_28 ?_
        refine g_iload_n (pc := 29) C 2 rfl dX5_choose_29 ?_
        refine g_iload_n (pc := 30) C 1 rfl dX5_choose_30 ?_
        obtain ⟨v1, hc, h⟩ := b1_of h
        refine g_callV (pc := 31) C (w' := cs_X5 J.2.2.1 a0 f_order f_seam f_toCome f_places f_seams) (As := [.int x3, .int x2]) (st := []) (ci := 5) (q0 := 0) rfl rfl (t_X5_bestBehind (a0 := a0) hc) Sub.same kw_478 kw_479 kw_480 kw_91 hy_X5_bestBehind kw_481 rfl (Nat.le_of_ble_eq_true rfl) (Nat.le_of_ble_eq_true rfl) (Nat.le_of_ble_eq_true rfl) (Nat.le_of_ble_eq_true rfl) (Nat.le_of_ble_eq_true rfl) dX5_choose_31 ?_
        refine g_istore (pc := 34) C [(5, .int v1), (0, .ref (a0 0)), (2, .int x2), (3, .int x3), (4, .int x4)] dX5_choose_34 (by decide) rfl ?_
        refine g_iload (pc := 36) C 0 rfl dX5_choose_36 ?_
        refine g_iconst (pc := 38) C dX5_choose_38 ci_m1 ?_
        refine g_icmp_ne (pc := 39) C (tgt := 43) dX5_choose_39 rfl h (fun h => ?_) (fun h => ?_)
        · refine g_aload_n (pc := 43) C 1 rfl dX5_choose_43 ?_
          refine g_iload (pc := 44) C 4 rfl dX5_choose_44 ?_
          refine g_if_ne (pc := 46) C (tgt := 60) dX5_choose_46 rfl h (fun h => ?_) (fun h => ?_)
          · refine g_aload_n (pc := 60) C 1 rfl dX5_choose_60 ?_
            refine g_get (pc := 61) C FOK_X5 0 rfl rfl 4 (by decide) kw_254 rfl dX5_choose_61 ?_
            refine g_lv [1, 2, 4, 0] rfl ?_
            exact j_X5_choose_64 C E   ih x2 x4 v1 f_seams f_order f_places f_seams h
          · refine g_aload_n (pc := 49) C 1 rfl dX5_choose_49 ?_
            refine g_iload_n (pc := 50) C 3 rfl dX5_choose_50 ?_
            refine g_iload (pc := 51) C 0 rfl dX5_choose_51 ?_
            refine g_iload_n (pc := 53) C 2 rfl dX5_choose_53 ?_
            obtain ⟨v2, hc, h⟩ := b1_of h
            refine g_callV (pc := 54) C (w' := cs_X5 J.2.2.1 a0 f_order f_seam f_toCome f_places f_seams) (As := [.int x3, .int v1, .int x2]) (st := [.ref (a0 0)]) (ci := 5) (q0 := 0) rfl rfl (t_X5_worth (a0 := a0) hc) Sub.same kw_485 kw_486 kw_487 kw_91 hy_X5_worth kw_488 rfl (Nat.le_of_ble_eq_true rfl) (Nat.le_of_ble_eq_true rfl) (Nat.le_of_ble_eq_true rfl) (Nat.le_of_ble_eq_true rfl) (Nat.le_of_ble_eq_true rfl) dX5_choose_54 ?_
            refine g_goto (pc := 57) C (tgt := 64) dX5_choose_57 rfl ?_
            refine g_lv [1, 2, 4, 0] rfl ?_
            exact j_X5_choose_64 C E   ih x2 x4 v1 v2 f_order f_places f_seams h
        · cases h
          exact g_vret C E dX5_choose_42
set_option maxRecDepth 100000 in
set_option maxHeartbeats 4000000 in
theorem t_X5_choose {J : Jt} {a0 : Nat → Nat} {f_order : Nat → Int32} {f_seam : Nat → Int32} {f_toCome : Nat → Int32} {f_places : Int32} {f_seams : Int32} {n1 : Int32} {o_f_order : Nat → Int32} {o_f_places : Int32} {o_f_seams : Int32} (h : f_X5_choose f_order f_seam f_toCome f_places f_seams n1 = some (o_f_order, o_f_places, o_f_seams)) : Mt J yX5_choose cX5_choose 6 none rm_X5_choose [.ref (a0 0), .int n1] (cs_X5 J.2.2.1 a0 f_order f_seam f_toCome f_places f_seams) none (cs_X5 J.2.2.1 a0 o_f_order f_seam f_toCome o_f_places o_f_seams) := by
  refine Mt_of (own := RX5) (by decide) rfl (Nat.le_of_ble_eq_true rfl) rfl (fun Z C E => ?_)
  unfold f_X5_choose at h
  show G J Z 0 0 (cs_X5 J.2.2.1 a0 f_order f_seam f_toCome f_places f_seams) 6 [(0, .ref (a0 0)), (1, .int n1)] 0 []
  refine g_aload_n (pc := 0) C 0 rfl dX5_choose_0 ?_
  refine g_iconst (pc := 1) C dX5_choose_1 ci_0 ?_
  refine g_put (pc := 2) C (w' := cs_X5 J.2.2.1 a0 f_order f_seam f_toCome 0 f_seams) FOK_X5 0 rfl rfl 3 (by decide) kw_252 rfl rfl rfl (Nat.le_of_ble_eq_true rfl) dX5_choose_2 rfl ?_
  refine g_aload_n (pc := 5) C 0 rfl dX5_choose_5 ?_
  refine g_iconst (pc := 6) C dX5_choose_6 ci_0 ?_
  refine g_put (pc := 7) C (w' := cs_X5 J.2.2.1 a0 f_order f_seam f_toCome 0 0) FOK_X5 0 rfl rfl 4 (by decide) kw_254 rfl rfl rfl (Nat.le_of_ble_eq_true rfl) dX5_choose_7 rfl ?_
  refine g_iload_n (pc := 10) C 1 rfl dX5_choose_10 ?_
  refine g_istore_n (pc := 11) C [(2, .int n1), (0, .ref (a0 0)), (1, .int n1)] dX5_choose_11 rfl (by decide) rfl ?_
  refine g_iconst (pc := 12) C dX5_choose_12 ci_m1 ?_
  refine g_istore_n (pc := 13) C [(3, .int (-1)), (2, .int n1), (0, .ref (a0 0)), (1, .int n1)] dX5_choose_13 rfl (by decide) rfl ?_
  refine g_iconst (pc := 14) C dX5_choose_14 ci_0 ?_
  refine g_istore (pc := 15) C [(4, .int 0), (3, .int (-1)), (2, .int n1), (0, .ref (a0 0)), (1, .int n1)] dX5_choose_15 (by decide) rfl ?_
  refine g_lv [3, 2, 1, 0] rfl ?_
  exact j_X5_choose_17 C E    FU n1 (-1) 0 f_order 0 0 h
noncomputable def f_X5_find_123  (s_gone : Nat → Int32) (p_letters : Int32) (p_length : Nat → Int32) (p_words : Nat → Int32) (k109 : Int32 → Int32 → (Nat → Int32) → (Nat → Int32) → (Nat → Int32) → Int32 → Int32 → Option ((Nat → Int32) × (Nat → Int32) × (Nat → Int32) × Int32 × Int32)) : Nat → Int32 → Int32 → Int32 → (Nat → Int32) → (Nat → Int32) → (Nat → Int32) → Int32 → Int32 → Option ((Nat → Int32) × (Nat → Int32) × (Nat → Int32) × Int32 × Int32)
  | 0, _, _, _, _, _, _, _, _ => none
  | n + 1, x3, x4, x5, f_order, f_seam, f_toCome, f_places, f_seams => if p_letters ≤ x5 then k109 x3 (x4 + 1) f_order f_seam f_toCome f_places f_seams else b1 (f_X5_bestBehind f_seam f_toCome x5 x4) (fun v1 => if v1 = (-1) then if ixb ((x4 * 6) + x5) 384 then f_X5_find_123 s_gone p_letters p_length p_words k109 n x3 x4 (x5 + 1) f_order f_seam (upd f_toCome ((x4 * 6) + x5).toNatClampNeg 0) f_places f_seams else none else b1 (f_X5_worth f_seam f_toCome x5 v1 x4) (fun v2 => if ixb ((x4 * 6) + x5) 384 then f_X5_find_123 s_gone p_letters p_length p_words k109 n x3 x4 (x5 + 1) f_order f_seam (upd f_toCome ((x4 * 6) + x5).toNatClampNeg v2) f_places f_seams else none))
noncomputable def f_X5_find_109  (s_gone : Nat → Int32) (p_letters : Int32) (p_length : Nat → Int32) (p_words : Nat → Int32) : Nat → Int32 → Int32 → (Nat → Int32) → (Nat → Int32) → (Nat → Int32) → Int32 → Int32 → Option ((Nat → Int32) × (Nat → Int32) × (Nat → Int32) × Int32 × Int32)
  | 0, _, _, _, _, _, _, _ => none
  | n + 1, x3, x4, f_order, f_seam, f_toCome, f_places, f_seams => if ((1 : Int32) <<< (p_letters &&& 31)) ≤ x4 then b3 (f_X5_choose f_order f_seam f_toCome f_places f_seams x3) (fun c3 c4 c5 => some (c3, f_seam, f_toCome, c4, c5)) else f_X5_find_123 s_gone p_letters p_length p_words (f_X5_find_109 s_gone p_letters p_length p_words n) FU x3 x4 0 f_order f_seam f_toCome f_places f_seams
noncomputable def f_X5_find_38  (s_gone : Nat → Int32) (p_letters : Int32) (p_length : Nat → Int32) (p_words : Nat → Int32) (k5 : Int32 → Int32 → (Nat → Int32) → (Nat → Int32) → (Nat → Int32) → Int32 → Int32 → Option ((Nat → Int32) × (Nat → Int32) × (Nat → Int32) × Int32 × Int32)) : Nat → Int32 → Int32 → Int32 → (Nat → Int32) → (Nat → Int32) → (Nat → Int32) → Int32 → Int32 → Option ((Nat → Int32) × (Nat → Int32) × (Nat → Int32) × Int32 × Int32)
  | 0, _, _, _, _, _, _, _, _ => none
  | n + 1, x3, x4, x5, f_order, f_seam, f_toCome, f_places, f_seams => if p_letters ≤ x5 then k5 x3 (x4 + 1) f_order f_seam f_toCome f_places f_seams else if ixb x4 6 then b1 (f_X2_wordAt p_words x4 ((p_length x4.toNatClampNeg) - 1)) (fun v6 => b1 (f_X4_nextOf s_gone p_length p_words x5) (fun v7 => if v6 = v7 then if ixb ((x4 * 6) + x5) 36 then f_X5_find_38 s_gone p_letters p_length p_words k5 n x3 x4 (x5 + 1) f_order (upd f_seam ((x4 * 6) + x5).toNatClampNeg 1) f_toCome f_places f_seams else none else if ixb ((x4 * 6) + x5) 36 then f_X5_find_38 s_gone p_letters p_length p_words k5 n x3 x4 (x5 + 1) f_order (upd f_seam ((x4 * 6) + x5).toNatClampNeg 0) f_toCome f_places f_seams else none)) else none
noncomputable def f_X5_find_5  (s_gone : Nat → Int32) (p_letters : Int32) (p_length : Nat → Int32) (p_words : Nat → Int32) : Nat → Int32 → Int32 → (Nat → Int32) → (Nat → Int32) → (Nat → Int32) → Int32 → Int32 → Option ((Nat → Int32) × (Nat → Int32) × (Nat → Int32) × Int32 × Int32)
  | 0, _, _, _, _, _, _, _ => none
  | n + 1, x3, x4, f_order, f_seam, f_toCome, f_places, f_seams => if p_letters ≤ x4 then f_X5_find_109 s_gone p_letters p_length p_words FU x3 0 f_order f_seam f_toCome f_places f_seams else b1 (f_X4_leftOf s_gone p_length x4) (fun v8 => if v8 ≤ 0 then f_X5_find_38 s_gone p_letters p_length p_words (f_X5_find_5 s_gone p_letters p_length p_words n) FU (x3 ||| 0) x4 0 f_order f_seam f_toCome f_places f_seams else f_X5_find_38 s_gone p_letters p_length p_words (f_X5_find_5 s_gone p_letters p_length p_words n) FU (x3 ||| ((1 : Int32) <<< (x4 &&& 31))) x4 0 f_order f_seam f_toCome f_places f_seams)
noncomputable def f_X5_find (f_order : Nat → Int32) (f_seam : Nat → Int32) (f_toCome : Nat → Int32) (f_places : Int32) (f_seams : Int32) (s_gone : Nat → Int32) (p_letters : Int32) (p_length : Nat → Int32) (p_words : Nat → Int32) : Option ((Nat → Int32) × (Nat → Int32) × (Nat → Int32) × Int32 × Int32) := f_X5_find_5 s_gone p_letters p_length p_words FU 0 0 f_order f_seam f_toCome f_places f_seams
def rm_X5_find : Room := { frames := 3, cells := 0, slots := 0, locals := 73 }
set_option maxRecDepth 100000 in
set_option maxHeartbeats 4000000 in
theorem j_X5_find_123 {J : Jt} {Z : Zt} {a0 : Nat → Nat} {a1 : Nat → Nat} {a2 : Nat → Nat} {s_year : Int32} {s_wet : Int32} {s_lost : Int32} {s_eaten : Int32} {s_tied : Int32} {s_ripeMany : Int32} {s_gone : Nat → Int32} {s_place : Nat → Int32} {s_heard : Nat → Int32} {s_many : Nat → Int32} {s_lying : Nat → Int32} {s_ripe : Nat → Int32} {p_beds : Int32} {p_letters : Int32} {p_readers : Int32} {p_far : Nat → Int32} {p_drain : Nat → Int32} {p_length : Nat → Int32} {p_words : Nat → Int32} {p_home : Nat → Int32} {o_f_order : Nat → Int32} {o_f_seam : Nat → Int32} {o_f_toCome : Nat → Int32} {o_f_places : Int32} {o_f_seams : Int32} {k109 : Int32 → Int32 → (Nat → Int32) → (Nat → Int32) → (Nat → Int32) → Int32 → Int32 → Option ((Nat → Int32) × (Nat → Int32) × (Nat → Int32) × Int32 × Int32)} (C : Cx J Z cX5_find 7 RX5 none rm_X5_find) (E : Ez J Z 0 0 none (cs_X5 J.2.2.1 a0 o_f_order o_f_seam o_f_toCome o_f_places o_f_seams ++ cs_X4 J.2.2.1 a1 s_year s_wet s_lost s_eaten s_tied s_ripeMany s_gone s_place s_heard s_many s_lying s_ripe ++ cs_X2 J.2.2.1 a2 p_beds p_letters p_readers p_far p_drain p_length p_words p_home)) (hk109 : ∀ (x3 : Int32) (x4 : Int32) (f_order : Nat → Int32) (f_seam : Nat → Int32) (f_toCome : Nat → Int32) (f_places : Int32) (f_seams : Int32), k109 x3 x4 f_order f_seam f_toCome f_places f_seams = some (o_f_order, o_f_seam, o_f_toCome, o_f_places, o_f_seams) → G J Z 0 0 (cs_X5 J.2.2.1 a0 f_order f_seam f_toCome f_places f_seams ++ cs_X4 J.2.2.1 a1 s_year s_wet s_lost s_eaten s_tied s_ripeMany s_gone s_place s_heard s_many s_lying s_ripe ++ cs_X2 J.2.2.1 a2 p_beds p_letters p_readers p_far p_drain p_length p_words p_home) 7 [(0, .ref (a0 0)), (2, .ref (a2 0)), (3, .int x3), (4, .int x4)] 109 []) : ∀ (n : Nat) (x3 : Int32) (x4 : Int32) (x5 : Int32) (f_order : Nat → Int32) (f_seam : Nat → Int32) (f_toCome : Nat → Int32) (f_places : Int32) (f_seams : Int32), f_X5_find_123 s_gone p_letters p_length p_words k109 n x3 x4 x5 f_order f_seam f_toCome f_places f_seams = some (o_f_order, o_f_seam, o_f_toCome, o_f_places, o_f_seams) → G J Z 0 0 (cs_X5 J.2.2.1 a0 f_order f_seam f_toCome f_places f_seams ++ cs_X4 J.2.2.1 a1 s_year s_wet s_lost s_eaten s_tied s_ripeMany s_gone s_place s_heard s_many s_lying s_ripe ++ cs_X2 J.2.2.1 a2 p_beds p_letters p_readers p_far p_drain p_length p_words p_home) 7 [(0, .ref (a0 0)), (2, .ref (a2 0)), (3, .int x3), (4, .int x4), (5, .int x5)] 123 [] := by
  intro n
  induction n with
  | zero =>
    intro x3 x4 x5 f_order f_seam f_toCome f_places f_seams h
    rw [f_X5_find_123] at h
    cases h
  | succ n ih =>
    intro x3 x4 x5 f_order f_seam f_toCome f_places f_seams h
    rw [f_X5_find_123] at h
    refine g_iload (pc := 123) C 4 rfl dX5_find_123 ?_
    refine g_aload_n (pc := 125) C 1 rfl dX5_find_125 ?_
    refine g_get (pc := 126) C FOK_X2 11 rfl rfl 1 (by decide) kw_282 rfl dX5_find_126 ?_
    refine g_icmp_ge (pc := 129) C (tgt := 181) dX5_find_129 rfl h (fun h => ?_) (fun h => ?_)
    · refine g_iinc (pc := 181) C (j := 3) [(4, .int (x4 + 1)), (0, .ref (a0 0)), (2, .ref (a2 0)), (3, .int x3), (5, .int x5)] dX5_find_181 rfl (ii_1 _) (by decide) rfl ?_
      refine g_goto (pc := 184) C (tgt := 109) dX5_find_184 rfl ?_
      refine g_lv [1, 2, 3, 0] rfl ?_
      exact hk109 x3 (x4 + 1) f_order f_seam f_toCome f_places f_seams h
    · refine g_aload_n (pc := 132) C 0 rfl dX5_find_132 ?_
      refine g_iload (pc := 133) C 4 rfl dX5_find_133 ?_
      refine g_iload (pc := 135) C 3 rfl dX5_find_135 ?_
      obtain ⟨v1, hc, h⟩ := b1_of h
      refine g_callV (pc := 137) C (w' := cs_X5 J.2.2.1 a0 f_order f_seam f_toCome f_places f_seams ++ cs_X4 J.2.2.1 a1 s_year s_wet s_lost s_eaten s_tied s_ripeMany s_gone s_place s_heard s_many s_lying s_ripe ++ cs_X2 J.2.2.1 a2 p_beds p_letters p_readers p_far p_drain p_length p_words p_home) (As := [.int x5, .int x4]) (st := []) (ci := 5) (q0 := 0) rfl rfl (t_X5_bestBehind (a0 := a0) hc) (Sub.gen [0, 1, 2, 3] [4, 5, 6, 7, 8, 9, 10, 11, 12, 13, 14, 15, 16] [13, 14, 15, 16, 0, 1, 2, 3, 4, 5, 6, 7, 8, 9, 10, 11, 12] rfl (by decide) rfl (by decide) (by decide) rfl (by decide)) kw_478 kw_479 kw_480 kw_91 hy_X5_bestBehind kw_481 rfl (Nat.le_of_ble_eq_true rfl) (Nat.le_of_ble_eq_true rfl) (Nat.le_of_ble_eq_true rfl) (Nat.le_of_ble_eq_true rfl) (Nat.le_of_ble_eq_true rfl) dX5_find_137 ?_
      refine g_istore (pc := 140) C [(6, .int v1), (0, .ref (a0 0)), (2, .ref (a2 0)), (3, .int x3), (4, .int x4), (5, .int x5)] dX5_find_140 (by decide) rfl ?_
      refine g_aload_n (pc := 142) C 1 rfl dX5_find_142 ?_
      refine g_get (pc := 143) C FOK_X5 0 rfl rfl 2 (by decide) kw_251 rfl dX5_find_143 ?_
      refine g_iload (pc := 146) C 4 rfl dX5_find_146 ?_
      refine g_bipush (pc := 148) C dX5_find_148 cb_6 ?_
      refine g_imul (pc := 150) C dX5_find_150 ?_
      refine g_iload (pc := 151) C 5 rfl dX5_find_151 ?_
      refine g_iadd (pc := 153) C dX5_find_153 ?_
      refine g_iload (pc := 154) C 0 rfl dX5_find_154 ?_
      refine g_iconst (pc := 156) C dX5_find_156 ci_m1 ?_
      refine g_icmp_ne (pc := 157) C (tgt := 164) dX5_find_157 rfl h (fun h => ?_) (fun h => ?_)
      · refine g_aload_n (pc := 164) C 1 rfl dX5_find_164 ?_
        refine g_iload (pc := 165) C 5 rfl dX5_find_165 ?_
        refine g_iload (pc := 167) C 0 rfl dX5_find_167 ?_
        refine g_iload (pc := 169) C 4 rfl dX5_find_169 ?_
        obtain ⟨v2, hc, h⟩ := b1_of h
        refine g_callV (pc := 171) C (w' := cs_X5 J.2.2.1 a0 f_order f_seam f_toCome f_places f_seams ++ cs_X4 J.2.2.1 a1 s_year s_wet s_lost s_eaten s_tied s_ripeMany s_gone s_place s_heard s_many s_lying s_ripe ++ cs_X2 J.2.2.1 a2 p_beds p_letters p_readers p_far p_drain p_length p_words p_home) (As := [.int x5, .int v1, .int x4]) (st := [.int ((x4 * 6) + x5), .ref (a0 3)]) (ci := 5) (q0 := 0) rfl rfl (t_X5_worth (a0 := a0) hc) (Sub.gen [0, 1, 2, 3] [4, 5, 6, 7, 8, 9, 10, 11, 12, 13, 14, 15, 16] [13, 14, 15, 16, 0, 1, 2, 3, 4, 5, 6, 7, 8, 9, 10, 11, 12] rfl (by decide) rfl (by decide) (by decide) rfl (by decide)) kw_485 kw_486 kw_487 kw_91 hy_X5_worth kw_488 rfl (Nat.le_of_ble_eq_true rfl) (Nat.le_of_ble_eq_true rfl) (Nat.le_of_ble_eq_true rfl) (Nat.le_of_ble_eq_true rfl) (Nat.le_of_ble_eq_true rfl) dX5_find_171 ?_
        obtain ⟨hi, h⟩ := ix_of h
        refine g_iast (pc := 174) C (w' := cs_X5 J.2.2.1 a0 f_order f_seam (upd f_toCome ((x4 * 6) + x5).toNatClampNeg v2) f_places f_seams ++ cs_X4 J.2.2.1 a1 s_year s_wet s_lost s_eaten s_tied s_ripeMany s_gone s_place s_heard s_many s_lying s_ripe ++ cs_X2 J.2.2.1 a2 p_beds p_letters p_readers p_far p_drain p_length p_words p_home) 3 rfl hi dX5_find_174 rfl ?_
        refine g_iinc (pc := 175) C (j := 5) [(5, .int (x5 + 1)), (6, .int v1), (0, .ref (a0 0)), (2, .ref (a2 0)), (3, .int x3), (4, .int x4)] dX5_find_175 rfl (ii_1 _) (by decide) rfl ?_
        refine g_goto (pc := 178) C (tgt := 123) dX5_find_178 rfl ?_
        refine g_lv [2, 3, 4, 5, 0] rfl ?_
        exact ih x3 x4 (x5 + 1) f_order f_seam (upd f_toCome ((x4 * 6) + x5).toNatClampNeg v2) f_places f_seams h
      · refine g_iconst (pc := 160) C dX5_find_160 ci_0 ?_
        refine g_goto (pc := 161) C (tgt := 174) dX5_find_161 rfl ?_
        obtain ⟨hi, h⟩ := ix_of h
        refine g_iast (pc := 174) C (w' := cs_X5 J.2.2.1 a0 f_order f_seam (upd f_toCome ((x4 * 6) + x5).toNatClampNeg 0) f_places f_seams ++ cs_X4 J.2.2.1 a1 s_year s_wet s_lost s_eaten s_tied s_ripeMany s_gone s_place s_heard s_many s_lying s_ripe ++ cs_X2 J.2.2.1 a2 p_beds p_letters p_readers p_far p_drain p_length p_words p_home) 3 rfl hi dX5_find_174 rfl ?_
        refine g_iinc (pc := 175) C (j := 5) [(5, .int (x5 + 1)), (6, .int v1), (0, .ref (a0 0)), (2, .ref (a2 0)), (3, .int x3), (4, .int x4)] dX5_find_175 rfl (ii_1 _) (by decide) rfl ?_
        refine g_goto (pc := 178) C (tgt := 123) dX5_find_178 rfl ?_
        refine g_lv [2, 3, 4, 5, 0] rfl ?_
        exact ih x3 x4 (x5 + 1) f_order f_seam (upd f_toCome ((x4 * 6) + x5).toNatClampNeg 0) f_places f_seams h
set_option maxRecDepth 100000 in
set_option maxHeartbeats 4000000 in
theorem j_X5_find_109 {J : Jt} {Z : Zt} {a0 : Nat → Nat} {a1 : Nat → Nat} {a2 : Nat → Nat} {s_year : Int32} {s_wet : Int32} {s_lost : Int32} {s_eaten : Int32} {s_tied : Int32} {s_ripeMany : Int32} {s_gone : Nat → Int32} {s_place : Nat → Int32} {s_heard : Nat → Int32} {s_many : Nat → Int32} {s_lying : Nat → Int32} {s_ripe : Nat → Int32} {p_beds : Int32} {p_letters : Int32} {p_readers : Int32} {p_far : Nat → Int32} {p_drain : Nat → Int32} {p_length : Nat → Int32} {p_words : Nat → Int32} {p_home : Nat → Int32} {o_f_order : Nat → Int32} {o_f_seam : Nat → Int32} {o_f_toCome : Nat → Int32} {o_f_places : Int32} {o_f_seams : Int32} (C : Cx J Z cX5_find 7 RX5 none rm_X5_find) (E : Ez J Z 0 0 none (cs_X5 J.2.2.1 a0 o_f_order o_f_seam o_f_toCome o_f_places o_f_seams ++ cs_X4 J.2.2.1 a1 s_year s_wet s_lost s_eaten s_tied s_ripeMany s_gone s_place s_heard s_many s_lying s_ripe ++ cs_X2 J.2.2.1 a2 p_beds p_letters p_readers p_far p_drain p_length p_words p_home)) : ∀ (n : Nat) (x3 : Int32) (x4 : Int32) (f_order : Nat → Int32) (f_seam : Nat → Int32) (f_toCome : Nat → Int32) (f_places : Int32) (f_seams : Int32), f_X5_find_109 s_gone p_letters p_length p_words n x3 x4 f_order f_seam f_toCome f_places f_seams = some (o_f_order, o_f_seam, o_f_toCome, o_f_places, o_f_seams) → G J Z 0 0 (cs_X5 J.2.2.1 a0 f_order f_seam f_toCome f_places f_seams ++ cs_X4 J.2.2.1 a1 s_year s_wet s_lost s_eaten s_tied s_ripeMany s_gone s_place s_heard s_many s_lying s_ripe ++ cs_X2 J.2.2.1 a2 p_beds p_letters p_readers p_far p_drain p_length p_words p_home) 7 [(0, .ref (a0 0)), (2, .ref (a2 0)), (3, .int x3), (4, .int x4)] 109 [] := by
  intro n
  induction n with
  | zero =>
    intro x3 x4 f_order f_seam f_toCome f_places f_seams h
    rw [f_X5_find_109] at h
    cases h
  | succ n ih =>
    intro x3 x4 f_order f_seam f_toCome f_places f_seams h
    rw [f_X5_find_109] at h
    refine g_iload (pc := 109) C 3 rfl dX5_find_109 ?_
    refine g_iconst (pc := 111) C dX5_find_111 ci_1 ?_
    refine g_aload_n (pc := 112) C 1 rfl dX5_find_112 ?_
    refine g_get (pc := 113) C FOK_X2 11 rfl rfl 1 (by decide) kw_282 rfl dX5_find_113 ?_
    refine g_ishl (pc := 116) C dX5_find_116 ?_
    refine g_icmp_ge (pc := 117) C (tgt := 187) dX5_find_117 rfl h (fun h => ?_) (fun h => ?_)
    · refine g_aload_n (pc := 187) C 0 rfl dX5_find_187 ?_
      refine g_iload_n (pc := 188) C 2 rfl dX5_find_188 ?_
      obtain ⟨c3, c4, c5, hc, h⟩ := b3_of h
      refine g_callV (pc := 189) C (w' := cs_X5 J.2.2.1 a0 c3 f_seam f_toCome c4 c5 ++ cs_X4 J.2.2.1 a1 s_year s_wet s_lost s_eaten s_tied s_ripeMany s_gone s_place s_heard s_many s_lying s_ripe ++ cs_X2 J.2.2.1 a2 p_beds p_letters p_readers p_far p_drain p_length p_words p_home) (As := [.int x3]) (st := []) (ci := 5) (q0 := 0) rfl rfl (t_X5_choose (a0 := a0) hc) (Sub.gen [0, 1, 2, 3] [4, 5, 6, 7, 8, 9, 10, 11, 12, 13, 14, 15, 16] [13, 14, 15, 16, 0, 1, 2, 3, 4, 5, 6, 7, 8, 9, 10, 11, 12] rfl (by decide) rfl (by decide) (by decide) rfl (by decide)) kw_489 kw_490 kw_491 kw_91 hy_X5_choose kw_492 rfl (Nat.le_of_ble_eq_true rfl) (Nat.le_of_ble_eq_true rfl) (Nat.le_of_ble_eq_true rfl) (Nat.le_of_ble_eq_true rfl) (Nat.le_of_ble_eq_true rfl) dX5_find_189 ?_
      cases h
      exact g_vret C E dX5_find_192
    · refine g_iconst (pc := 120) C dX5_find_120 ci_0 ?_
      refine g_istore (pc := 121) C [(5, .int 0), (0, .ref (a0 0)), (2, .ref (a2 0)), (3, .int x3), (4, .int x4)] dX5_find_121 (by decide) rfl ?_
      refine g_lv [1, 2, 3, 4, 0] rfl ?_
      exact j_X5_find_123 C E   ih FU x3 x4 0 f_order f_seam f_toCome f_places f_seams h
set_option maxRecDepth 100000 in
set_option maxHeartbeats 4000000 in
theorem j_X5_find_38 {J : Jt} {Z : Zt} {a0 : Nat → Nat} {a1 : Nat → Nat} {a2 : Nat → Nat} {s_year : Int32} {s_wet : Int32} {s_lost : Int32} {s_eaten : Int32} {s_tied : Int32} {s_ripeMany : Int32} {s_gone : Nat → Int32} {s_place : Nat → Int32} {s_heard : Nat → Int32} {s_many : Nat → Int32} {s_lying : Nat → Int32} {s_ripe : Nat → Int32} {p_beds : Int32} {p_letters : Int32} {p_readers : Int32} {p_far : Nat → Int32} {p_drain : Nat → Int32} {p_length : Nat → Int32} {p_words : Nat → Int32} {p_home : Nat → Int32} {o_f_order : Nat → Int32} {o_f_seam : Nat → Int32} {o_f_toCome : Nat → Int32} {o_f_places : Int32} {o_f_seams : Int32} {k5 : Int32 → Int32 → (Nat → Int32) → (Nat → Int32) → (Nat → Int32) → Int32 → Int32 → Option ((Nat → Int32) × (Nat → Int32) × (Nat → Int32) × Int32 × Int32)} (C : Cx J Z cX5_find 7 RX5 none rm_X5_find) (E : Ez J Z 0 0 none (cs_X5 J.2.2.1 a0 o_f_order o_f_seam o_f_toCome o_f_places o_f_seams ++ cs_X4 J.2.2.1 a1 s_year s_wet s_lost s_eaten s_tied s_ripeMany s_gone s_place s_heard s_many s_lying s_ripe ++ cs_X2 J.2.2.1 a2 p_beds p_letters p_readers p_far p_drain p_length p_words p_home)) (hk5 : ∀ (x3 : Int32) (x4 : Int32) (f_order : Nat → Int32) (f_seam : Nat → Int32) (f_toCome : Nat → Int32) (f_places : Int32) (f_seams : Int32), k5 x3 x4 f_order f_seam f_toCome f_places f_seams = some (o_f_order, o_f_seam, o_f_toCome, o_f_places, o_f_seams) → G J Z 0 0 (cs_X5 J.2.2.1 a0 f_order f_seam f_toCome f_places f_seams ++ cs_X4 J.2.2.1 a1 s_year s_wet s_lost s_eaten s_tied s_ripeMany s_gone s_place s_heard s_many s_lying s_ripe ++ cs_X2 J.2.2.1 a2 p_beds p_letters p_readers p_far p_drain p_length p_words p_home) 7 [(0, .ref (a0 0)), (1, .ref (a1 0)), (2, .ref (a2 0)), (3, .int x3), (4, .int x4)] 5 []) : ∀ (n : Nat) (x3 : Int32) (x4 : Int32) (x5 : Int32) (f_order : Nat → Int32) (f_seam : Nat → Int32) (f_toCome : Nat → Int32) (f_places : Int32) (f_seams : Int32), f_X5_find_38 s_gone p_letters p_length p_words k5 n x3 x4 x5 f_order f_seam f_toCome f_places f_seams = some (o_f_order, o_f_seam, o_f_toCome, o_f_places, o_f_seams) → G J Z 0 0 (cs_X5 J.2.2.1 a0 f_order f_seam f_toCome f_places f_seams ++ cs_X4 J.2.2.1 a1 s_year s_wet s_lost s_eaten s_tied s_ripeMany s_gone s_place s_heard s_many s_lying s_ripe ++ cs_X2 J.2.2.1 a2 p_beds p_letters p_readers p_far p_drain p_length p_words p_home) 7 [(0, .ref (a0 0)), (1, .ref (a1 0)), (2, .ref (a2 0)), (3, .int x3), (4, .int x4), (5, .int x5)] 38 [] := by
  intro n
  induction n with
  | zero =>
    intro x3 x4 x5 f_order f_seam f_toCome f_places f_seams h
    rw [f_X5_find_38] at h
    cases h
  | succ n ih =>
    intro x3 x4 x5 f_order f_seam f_toCome f_places f_seams h
    rw [f_X5_find_38] at h
    refine g_iload (pc := 38) C 5 rfl dX5_find_38 ?_
    refine g_aload_n (pc := 40) C 2 rfl dX5_find_40 ?_
    refine g_get (pc := 41) C FOK_X2 11 rfl rfl 1 (by decide) kw_282 rfl dX5_find_41 ?_
    refine g_icmp_ge (pc := 44) C (tgt := 100) dX5_find_44 rfl h (fun h => ?_) (fun h => ?_)
    · refine g_iinc (pc := 100) C (j := 4) [(4, .int (x4 + 1)), (0, .ref (a0 0)), (1, .ref (a1 0)), (2, .ref (a2 0)), (3, .int x3), (5, .int x5)] dX5_find_100 rfl (ii_1 _) (by decide) rfl ?_
      refine g_goto (pc := 103) C (tgt := 5) dX5_find_103 rfl ?_
      refine g_lv [1, 2, 3, 4, 0] rfl ?_
      exact hk5 x3 (x4 + 1) f_order f_seam f_toCome f_places f_seams h
    · refine g_aload_n (pc := 47) C 2 rfl dX5_find_47 ?_
      refine g_iload (pc := 48) C 4 rfl dX5_find_48 ?_
      refine g_aload_n (pc := 50) C 2 rfl dX5_find_50 ?_
      refine g_get (pc := 51) C FOK_X2 11 rfl rfl 5 (by decide) kw_298 rfl dX5_find_51 ?_
      refine g_iload (pc := 54) C 4 rfl dX5_find_54 ?_
      obtain ⟨hi, h⟩ := ix_of h
      refine g_iald (pc := 56) C 14 rfl hi dX5_find_56 ?_
      refine g_iconst (pc := 57) C dX5_find_57 ci_1 ?_
      refine g_isub (pc := 58) C dX5_find_58 ?_
      obtain ⟨v6, hc, h⟩ := b1_of h
      refine g_callV (pc := 59) C (w' := cs_X5 J.2.2.1 a0 f_order f_seam f_toCome f_places f_seams ++ cs_X4 J.2.2.1 a1 s_year s_wet s_lost s_eaten s_tied s_ripeMany s_gone s_place s_heard s_many s_lying s_ripe ++ cs_X2 J.2.2.1 a2 p_beds p_letters p_readers p_far p_drain p_length p_words p_home) (As := [.int x4, .int ((p_length x4.toNatClampNeg) - 1)]) (st := []) (ci := 2) (q0 := 11) rfl rfl (t_X2_wordAt (a0 := a2) hc) (Sub.gen [11, 12, 13, 14, 15, 16] [0, 1, 2, 3, 4, 5, 6, 7, 8, 9, 10] [0, 1, 2, 3, 4, 5, 6, 7, 8, 9, 10, 11, 12, 13, 14, 15, 16] rfl (by decide) rfl (by decide) (by decide) rfl (by decide)) kw_468 kw_469 kw_470 kw_92 hy_X2_wordAt kw_471 rfl (Nat.le_of_ble_eq_true rfl) (Nat.le_of_ble_eq_true rfl) (Nat.le_of_ble_eq_true rfl) (Nat.le_of_ble_eq_true rfl) (Nat.le_of_ble_eq_true rfl) dX5_find_59 ?_
      refine g_istore (pc := 62) C [(6, .int v6), (0, .ref (a0 0)), (1, .ref (a1 0)), (2, .ref (a2 0)), (3, .int x3), (4, .int x4), (5, .int x5)] dX5_find_62 (by decide) rfl ?_
      refine g_aload_n (pc := 64) C 1 rfl dX5_find_64 ?_
      refine g_get (pc := 65) C FOK_X5 0 rfl rfl 1 (by decide) kw_250 rfl dX5_find_65 ?_
      refine g_iload (pc := 68) C 5 rfl dX5_find_68 ?_
      refine g_bipush (pc := 70) C dX5_find_70 cb_6 ?_
      refine g_imul (pc := 72) C dX5_find_72 ?_
      refine g_iload (pc := 73) C 6 rfl dX5_find_73 ?_
      refine g_iadd (pc := 75) C dX5_find_75 ?_
      refine g_iload (pc := 76) C 0 rfl dX5_find_76 ?_
      refine g_aload_n (pc := 78) C 2 rfl dX5_find_78 ?_
      refine g_aload_n (pc := 79) C 3 rfl dX5_find_79 ?_
      refine g_iload (pc := 80) C 6 rfl dX5_find_80 ?_
      obtain ⟨v7, hc, h⟩ := b1_of h
      refine g_callV (pc := 82) C (w' := cs_X5 J.2.2.1 a0 f_order f_seam f_toCome f_places f_seams ++ cs_X4 J.2.2.1 a1 s_year s_wet s_lost s_eaten s_tied s_ripeMany s_gone s_place s_heard s_many s_lying s_ripe ++ cs_X2 J.2.2.1 a2 p_beds p_letters p_readers p_far p_drain p_length p_words p_home) (As := [.ref (a2 0), .int x5]) (st := [.int v6, .int ((x4 * 6) + x5), .ref (a0 2)]) (ci := 4) (q0 := 4) rfl rfl (t_X4_nextOf (a0 := a1) (a1 := a2) hc) (Sub.gen [4, 5, 6, 7, 8, 9, 10, 11, 12, 13, 14, 15, 16] [0, 1, 2, 3] [0, 1, 2, 3, 4, 5, 6, 7, 8, 9, 10, 11, 12, 13, 14, 15, 16] rfl (by decide) rfl (by decide) (by decide) rfl (by decide)) kw_472 kw_473 kw_474 kw_88 hy_X4_nextOf kw_475 rfl (Nat.le_of_ble_eq_true rfl) (Nat.le_of_ble_eq_true rfl) (Nat.le_of_ble_eq_true rfl) (Nat.le_of_ble_eq_true rfl) (Nat.le_of_ble_eq_true rfl) dX5_find_82 ?_
      refine g_icmp_ne (pc := 85) C (tgt := 92) dX5_find_85 rfl h (fun h => ?_) (fun h => ?_)
      · refine g_iconst (pc := 92) C dX5_find_92 ci_0 ?_
        obtain ⟨hi, h⟩ := ix_of h
        refine g_iast (pc := 93) C (w' := cs_X5 J.2.2.1 a0 f_order (upd f_seam ((x4 * 6) + x5).toNatClampNeg 0) f_toCome f_places f_seams ++ cs_X4 J.2.2.1 a1 s_year s_wet s_lost s_eaten s_tied s_ripeMany s_gone s_place s_heard s_many s_lying s_ripe ++ cs_X2 J.2.2.1 a2 p_beds p_letters p_readers p_far p_drain p_length p_words p_home) 2 rfl hi dX5_find_93 rfl ?_
        refine g_iinc (pc := 94) C (j := 6) [(5, .int (x5 + 1)), (6, .int v6), (0, .ref (a0 0)), (1, .ref (a1 0)), (2, .ref (a2 0)), (3, .int x3), (4, .int x4)] dX5_find_94 rfl (ii_1 _) (by decide) rfl ?_
        refine g_goto (pc := 97) C (tgt := 38) dX5_find_97 rfl ?_
        refine g_lv [2, 3, 4, 5, 6, 0] rfl ?_
        exact ih x3 x4 (x5 + 1) f_order (upd f_seam ((x4 * 6) + x5).toNatClampNeg 0) f_toCome f_places f_seams h
      · refine g_iconst (pc := 88) C dX5_find_88 ci_1 ?_
        refine g_goto (pc := 89) C (tgt := 93) dX5_find_89 rfl ?_
        obtain ⟨hi, h⟩ := ix_of h
        refine g_iast (pc := 93) C (w' := cs_X5 J.2.2.1 a0 f_order (upd f_seam ((x4 * 6) + x5).toNatClampNeg 1) f_toCome f_places f_seams ++ cs_X4 J.2.2.1 a1 s_year s_wet s_lost s_eaten s_tied s_ripeMany s_gone s_place s_heard s_many s_lying s_ripe ++ cs_X2 J.2.2.1 a2 p_beds p_letters p_readers p_far p_drain p_length p_words p_home) 2 rfl hi dX5_find_93 rfl ?_
        refine g_iinc (pc := 94) C (j := 6) [(5, .int (x5 + 1)), (6, .int v6), (0, .ref (a0 0)), (1, .ref (a1 0)), (2, .ref (a2 0)), (3, .int x3), (4, .int x4)] dX5_find_94 rfl (ii_1 _) (by decide) rfl ?_
        refine g_goto (pc := 97) C (tgt := 38) dX5_find_97 rfl ?_
        refine g_lv [2, 3, 4, 5, 6, 0] rfl ?_
        exact ih x3 x4 (x5 + 1) f_order (upd f_seam ((x4 * 6) + x5).toNatClampNeg 1) f_toCome f_places f_seams h
set_option maxRecDepth 100000 in
set_option maxHeartbeats 4000000 in
theorem j_X5_find_5 {J : Jt} {Z : Zt} {a0 : Nat → Nat} {a1 : Nat → Nat} {a2 : Nat → Nat} {s_year : Int32} {s_wet : Int32} {s_lost : Int32} {s_eaten : Int32} {s_tied : Int32} {s_ripeMany : Int32} {s_gone : Nat → Int32} {s_place : Nat → Int32} {s_heard : Nat → Int32} {s_many : Nat → Int32} {s_lying : Nat → Int32} {s_ripe : Nat → Int32} {p_beds : Int32} {p_letters : Int32} {p_readers : Int32} {p_far : Nat → Int32} {p_drain : Nat → Int32} {p_length : Nat → Int32} {p_words : Nat → Int32} {p_home : Nat → Int32} {o_f_order : Nat → Int32} {o_f_seam : Nat → Int32} {o_f_toCome : Nat → Int32} {o_f_places : Int32} {o_f_seams : Int32} (C : Cx J Z cX5_find 7 RX5 none rm_X5_find) (E : Ez J Z 0 0 none (cs_X5 J.2.2.1 a0 o_f_order o_f_seam o_f_toCome o_f_places o_f_seams ++ cs_X4 J.2.2.1 a1 s_year s_wet s_lost s_eaten s_tied s_ripeMany s_gone s_place s_heard s_many s_lying s_ripe ++ cs_X2 J.2.2.1 a2 p_beds p_letters p_readers p_far p_drain p_length p_words p_home)) : ∀ (n : Nat) (x3 : Int32) (x4 : Int32) (f_order : Nat → Int32) (f_seam : Nat → Int32) (f_toCome : Nat → Int32) (f_places : Int32) (f_seams : Int32), f_X5_find_5 s_gone p_letters p_length p_words n x3 x4 f_order f_seam f_toCome f_places f_seams = some (o_f_order, o_f_seam, o_f_toCome, o_f_places, o_f_seams) → G J Z 0 0 (cs_X5 J.2.2.1 a0 f_order f_seam f_toCome f_places f_seams ++ cs_X4 J.2.2.1 a1 s_year s_wet s_lost s_eaten s_tied s_ripeMany s_gone s_place s_heard s_many s_lying s_ripe ++ cs_X2 J.2.2.1 a2 p_beds p_letters p_readers p_far p_drain p_length p_words p_home) 7 [(0, .ref (a0 0)), (1, .ref (a1 0)), (2, .ref (a2 0)), (3, .int x3), (4, .int x4)] 5 [] := by
  intro n
  induction n with
  | zero =>
    intro x3 x4 f_order f_seam f_toCome f_places f_seams h
    rw [f_X5_find_5] at h
    cases h
  | succ n ih =>
    intro x3 x4 f_order f_seam f_toCome f_places f_seams h
    rw [f_X5_find_5] at h
    refine g_iload (pc := 5) C 4 rfl dX5_find_5 ?_
    refine g_aload_n (pc := 7) C 2 rfl dX5_find_7 ?_
    refine g_get (pc := 8) C FOK_X2 11 rfl rfl 1 (by decide) kw_282 rfl dX5_find_8 ?_
    refine g_icmp_ge (pc := 11) C (tgt := 106) dX5_find_11 rfl h (fun h => ?_) (fun h => ?_)
    · refine g_iconst (pc := 106) C dX5_find_106 ci_0 ?_
      refine g_istore (pc := 107) C [(4, .int 0), (0, .ref (a0 0)), (1, .ref (a1 0)), (2, .ref (a2 0)), (3, .int x3)] dX5_find_107 (by decide) rfl ?_
      refine g_lv [1, 3, 4, 0] rfl ?_
      exact j_X5_find_109 C E    FU x3 0 f_order f_seam f_toCome f_places f_seams h
    · refine g_iload_n (pc := 14) C 3 rfl dX5_find_14 ?_
      refine g_aload_n (pc := 15) C 1 rfl dX5_find_15 ?_
      refine g_aload_n (pc := 16) C 2 rfl dX5_find_16 ?_
      refine g_iload (pc := 17) C 4 rfl dX5_find_17 ?_
      obtain ⟨v8, hc, h⟩ := b1_of h
      refine g_callV (pc := 19) C (w' := cs_X5 J.2.2.1 a0 f_order f_seam f_toCome f_places f_seams ++ cs_X4 J.2.2.1 a1 s_year s_wet s_lost s_eaten s_tied s_ripeMany s_gone s_place s_heard s_many s_lying s_ripe ++ cs_X2 J.2.2.1 a2 p_beds p_letters p_readers p_far p_drain p_length p_words p_home) (As := [.ref (a2 0), .int x4]) (st := [.int x3]) (ci := 4) (q0 := 4) rfl rfl (t_X4_leftOf (a0 := a1) (a1 := a2) hc) (Sub.gen [4, 5, 6, 7, 8, 9, 10, 11, 12, 13, 14, 15, 16] [0, 1, 2, 3] [0, 1, 2, 3, 4, 5, 6, 7, 8, 9, 10, 11, 12, 13, 14, 15, 16] rfl (by decide) rfl (by decide) (by decide) rfl (by decide)) kw_464 kw_465 kw_466 kw_88 hy_X4_leftOf kw_467 rfl (Nat.le_of_ble_eq_true rfl) (Nat.le_of_ble_eq_true rfl) (Nat.le_of_ble_eq_true rfl) (Nat.le_of_ble_eq_true rfl) (Nat.le_of_ble_eq_true rfl) dX5_find_19 ?_
      refine g_if_le (pc := 22) C (tgt := 32) dX5_find_22 rfl h (fun h => ?_) (fun h => ?_)
      · refine g_iconst (pc := 32) C dX5_find_32 ci_0 ?_
        refine g_ior (pc := 33) C dX5_find_33 ?_
        refine g_istore_n (pc := 34) C [(3, .int (x3 ||| 0)), (0, .ref (a0 0)), (1, .ref (a1 0)), (2, .ref (a2 0)), (4, .int x4)] dX5_find_34 rfl (by decide) rfl ?_
        refine g_iconst (pc := 35) C dX5_find_35 ci_0 ?_
        refine g_istore (pc := 36) C [(5, .int 0), (3, .int (x3 ||| 0)), (0, .ref (a0 0)), (1, .ref (a1 0)), (2, .ref (a2 0)), (4, .int x4)] dX5_find_36 (by decide) rfl ?_
        refine g_lv [2, 3, 4, 1, 5, 0] rfl ?_
        exact j_X5_find_38 C E   ih FU (x3 ||| 0) x4 0 f_order f_seam f_toCome f_places f_seams h
      · refine g_iconst (pc := 25) C dX5_find_25 ci_1 ?_
        refine g_iload (pc := 26) C 4 rfl dX5_find_26 ?_
        refine g_ishl (pc := 28) C dX5_find_28 ?_
        refine g_goto (pc := 29) C (tgt := 33) dX5_find_29 rfl ?_
        refine g_ior (pc := 33) C dX5_find_33 ?_
        refine g_istore_n (pc := 34) C [(3, .int (x3 ||| ((1 : Int32) <<< (x4 &&& 31)))), (0, .ref (a0 0)), (1, .ref (a1 0)), (2, .ref (a2 0)), (4, .int x4)] dX5_find_34 rfl (by decide) rfl ?_
        refine g_iconst (pc := 35) C dX5_find_35 ci_0 ?_
        refine g_istore (pc := 36) C [(5, .int 0), (3, .int (x3 ||| ((1 : Int32) <<< (x4 &&& 31)))), (0, .ref (a0 0)), (1, .ref (a1 0)), (2, .ref (a2 0)), (4, .int x4)] dX5_find_36 (by decide) rfl ?_
        refine g_lv [2, 3, 4, 1, 5, 0] rfl ?_
        exact j_X5_find_38 C E   ih FU (x3 ||| ((1 : Int32) <<< (x4 &&& 31))) x4 0 f_order f_seam f_toCome f_places f_seams h
set_option maxRecDepth 100000 in
set_option maxHeartbeats 4000000 in
theorem t_X5_find {J : Jt} {a0 : Nat → Nat} {a1 : Nat → Nat} {a2 : Nat → Nat} {f_order : Nat → Int32} {f_seam : Nat → Int32} {f_toCome : Nat → Int32} {f_places : Int32} {f_seams : Int32} {s_year : Int32} {s_wet : Int32} {s_lost : Int32} {s_eaten : Int32} {s_tied : Int32} {s_ripeMany : Int32} {s_gone : Nat → Int32} {s_place : Nat → Int32} {s_heard : Nat → Int32} {s_many : Nat → Int32} {s_lying : Nat → Int32} {s_ripe : Nat → Int32} {p_beds : Int32} {p_letters : Int32} {p_readers : Int32} {p_far : Nat → Int32} {p_drain : Nat → Int32} {p_length : Nat → Int32} {p_words : Nat → Int32} {p_home : Nat → Int32} {o_f_order : Nat → Int32} {o_f_seam : Nat → Int32} {o_f_toCome : Nat → Int32} {o_f_places : Int32} {o_f_seams : Int32} (h : f_X5_find f_order f_seam f_toCome f_places f_seams s_gone p_letters p_length p_words = some (o_f_order, o_f_seam, o_f_toCome, o_f_places, o_f_seams)) : Mt J yX5_find cX5_find 7 none rm_X5_find [.ref (a0 0), .ref (a1 0), .ref (a2 0)] (cs_X5 J.2.2.1 a0 f_order f_seam f_toCome f_places f_seams ++ cs_X4 J.2.2.1 a1 s_year s_wet s_lost s_eaten s_tied s_ripeMany s_gone s_place s_heard s_many s_lying s_ripe ++ cs_X2 J.2.2.1 a2 p_beds p_letters p_readers p_far p_drain p_length p_words p_home) none (cs_X5 J.2.2.1 a0 o_f_order o_f_seam o_f_toCome o_f_places o_f_seams ++ cs_X4 J.2.2.1 a1 s_year s_wet s_lost s_eaten s_tied s_ripeMany s_gone s_place s_heard s_many s_lying s_ripe ++ cs_X2 J.2.2.1 a2 p_beds p_letters p_readers p_far p_drain p_length p_words p_home) := by
  refine Mt_of (own := RX5) (by decide) rfl (Nat.le_of_ble_eq_true rfl) rfl (fun Z C E => ?_)
  unfold f_X5_find at h
  show G J Z 0 0 (cs_X5 J.2.2.1 a0 f_order f_seam f_toCome f_places f_seams ++ cs_X4 J.2.2.1 a1 s_year s_wet s_lost s_eaten s_tied s_ripeMany s_gone s_place s_heard s_many s_lying s_ripe ++ cs_X2 J.2.2.1 a2 p_beds p_letters p_readers p_far p_drain p_length p_words p_home) 7 [(0, .ref (a0 0)), (1, .ref (a1 0)), (2, .ref (a2 0))] 0 []
  refine g_iconst (pc := 0) C dX5_find_0 ci_0 ?_
  refine g_istore_n (pc := 1) C [(3, .int 0), (0, .ref (a0 0)), (1, .ref (a1 0)), (2, .ref (a2 0))] dX5_find_1 rfl (by decide) rfl ?_
  refine g_iconst (pc := 2) C dX5_find_2 ci_0 ?_
  refine g_istore (pc := 3) C [(4, .int 0), (3, .int 0), (0, .ref (a0 0)), (1, .ref (a1 0)), (2, .ref (a2 0))] dX5_find_3 (by decide) rfl ?_
  refine g_lv [2, 3, 4, 1, 0] rfl ?_
  exact j_X5_find_5 C E    FU 0 0 f_order f_seam f_toCome f_places f_seams h
