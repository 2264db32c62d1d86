def rm_str (n : Nat) : Room := { frames := n, cells := 0, slots := 0, locals := n * 40 }
theorem st_len31 : ∀ i, i < 35 → stL i < 2 ^ 31 := by decide +kernel
theorem st_shr (x : Int32) : x >>> ((0 : Int32) &&& 31) = x := sb_shr0 x
set_option maxRecDepth 100000 in
theorem t_coder {J : Jt} {i : Nat} (hi : i < 35) : Mt J yJ0_coder_7d493 cJ0_coder_7d493 1 (some .byte) (rm_str 0) [.ref (J.2.2.2.1 i)] [] (some (.int 0)) [] := by
  refine Mt_of (own := RJ0) (by decide) rfl (Nat.le_of_ble_eq_true rfl) rfl (fun Z C E => ?_)
  show G J Z 0 0 [] 1 [(0, .ref (J.2.2.2.1 i))] 0 []
  refine g_getsC (pc := 0) C kw_644 dJ0_coder_7d493_0 ?_
  refine g_if_eq (pc := 3) C (tgt := 13) (P := none) (P' := some ()) (oo := ()) dJ0_coder_7d493_3 rfl (by decide) (fun h => nomatch h) (fun h => ?_)
  refine g_aload_n (pc := 6) C 0 rfl dJ0_coder_7d493_6 ?_
  refine g_getSc (pc := 7) C hi kw_1936 dJ0_coder_7d493_7 ?_
  refine g_goto (pc := 10) C (tgt := 14) dJ0_coder_7d493_10 rfl ?_
  exact g_zret C rfl E dJ0_coder_7d493_14
set_option maxRecDepth 100000 in
theorem t_isLatin1 {J : Jt} {i : Nat} (hi : i < 35) : Mt J yJ0_isLatin1_aae02 cJ0_isLatin1_aae02 1 (some .boolean) (rm_str 0) [.ref (J.2.2.2.1 i)] [] (some (.int 1)) [] := by
  refine Mt_of (own := RJ0) (by decide) rfl (Nat.le_of_ble_eq_true rfl) rfl (fun Z C E => ?_)
  show G J Z 0 0 [] 1 [(0, .ref (J.2.2.2.1 i))] 0 []
  refine g_getsC (pc := 0) C kw_644 dJ0_isLatin1_aae02_0 ?_
  refine g_if_eq (pc := 3) C (tgt := 17) (P := none) (P' := some ()) (oo := ()) dJ0_isLatin1_aae02_3 rfl (by decide) (fun h => nomatch h) (fun h => ?_)
  refine g_aload_n (pc := 6) C 0 rfl dJ0_isLatin1_aae02_6 ?_
  refine g_getSc (pc := 7) C hi kw_1936 dJ0_isLatin1_aae02_7 ?_
  refine g_if_ne (pc := 10) C (tgt := 17) (P := some ()) (P' := none) (oo := ()) dJ0_isLatin1_aae02_10 rfl (by decide) (fun h => nomatch h) (fun h => ?_)
  refine g_iconst (pc := 13) C dJ0_isLatin1_aae02_13 ci_1 ?_
  refine g_goto (pc := 14) C (tgt := 18) dJ0_isLatin1_aae02_14 rfl ?_
  exact g_zret C rfl E dJ0_isLatin1_aae02_18
set_option maxRecDepth 100000 in
theorem t_pcheck {J : Jt} {a b : Int32} {v : Value} (h1 : ¬ a < 0) (h2 : a < b) (hv : v.category = 1) : Mt J yJ3_checkIndex_8e157 cJ3_checkIndex_8e157 3 (some .int) (rm_str 0) [.int a, .int b, v] [] (some (.int a)) [] := by
  refine Mt_of (own := RJ3) (by decide) rfl (by show (lg_sl [.int a, .int b, v]).length ≤ 3; have e1 : (Value.int a).category = 1 := rfl; have e2 : (Value.int b).category = 1 := rfl; simp [lg_sl, hv, e1, e2]) rfl (fun Z C E => ?_)
  show G J Z 0 0 [] 3 [(0, .int a), (1, .int b), (2, v)] 0 []
  refine g_iload_n (pc := 0) C 0 rfl dJ3_checkIndex_8e157_0 ?_
  refine g_if_lt (pc := 1) C (tgt := 9) (P := none) (P' := some ()) (oo := ()) dJ3_checkIndex_8e157_1 rfl (by rw [if_neg h1]) (fun h => nomatch h) (fun h => ?_)
  refine g_iload_n (pc := 4) C 0 rfl dJ3_checkIndex_8e157_4 ?_
  refine g_iload_n (pc := 5) C 1 rfl dJ3_checkIndex_8e157_5 ?_
  refine g_icmp_lt (pc := 6) C (tgt := 16) (P := some ()) (P' := none) (oo := ()) dJ3_checkIndex_8e157_6 rfl (by rw [if_pos h2]) (fun h => ?_) (fun h => nomatch h)
  refine g_iload_n (pc := 16) C 0 rfl dJ3_checkIndex_8e157_16 ?_
  exact g_iret C E dJ3_checkIndex_8e157_17
set_option maxRecDepth 100000 in
theorem t_scheck {J : Jt} {a b : Int32} (h1 : ¬ a < 0) (h2 : a < b) : Mt J yJ0_checkIndex_df160 cJ0_checkIndex_df160 2 none (rm_str 1) [.int a, .int b] [] none [] := by
  refine Mt_of (own := RJ0) (by decide) rfl (Nat.le_of_ble_eq_true rfl) rfl (fun Z C E => ?_)
  show G J Z 0 0 [] 2 [(0, .int a), (1, .int b)] 0 []
  refine g_iload_n (pc := 0) C 0 rfl dJ0_checkIndex_df160_0 ?_
  refine g_iload_n (pc := 1) C 1 rfl dJ0_checkIndex_df160_1 ?_
  refine g_getsF (pc := 2) C kw_664 dJ0_checkIndex_df160_2 (fun v hv => ?_)
  refine g_callSX (pc := 5) C (w' := []) (As := [.int a, .int b, v]) (st := []) (t_pcheck h1 h2 hv) Sub.nil kw_666 kw_667 kw_103 hn_J3_checkIndex_8e157 kw_668 rfl (Nat.le_of_ble_eq_true rfl) (Nat.le_of_ble_eq_true rfl) (Nat.le_of_ble_eq_true rfl) (Nat.le_of_ble_eq_true rfl) (Nat.le_of_ble_eq_true rfl) dJ0_checkIndex_df160_5 ?_
  refine g_pop (pc := 8) C dJ0_checkIndex_df160_8 rfl ?_
  exact g_vret C E dJ0_checkIndex_df160_9
theorem st_in {i : Nat} (hi : i < 35) {x : Int32} (h : vp_in x (stL i)) : ¬ x < 0 ∧ x < nI (stL i) := by
  obtain ⟨j, hj, rfl⟩ := vp_in_of h (st_len31 i hi)
  exact ⟨nI_pos (by have := st_len31 i hi; omega), nI_lt hj (st_len31 i hi)⟩
set_option maxRecDepth 100000 in
theorem t_lcharAt {J : Jt} {i : Nat} {x : Int32} (hi : i < 35) (hx : vp_in x (stL i)) : Mt J yJ1_charAt_3b067 cJ1_charAt_3b067 2 (some .char) (rm_str 2) [.ref (J.2.2.2.2 i), .int x] [] (some (.int (stC i x.toNatClampNeg &&& 255))) [] := by
  obtain ⟨h1, h2⟩ := st_in hi hx
  refine Mt_of (own := RJ1) (by decide) rfl (Nat.le_of_ble_eq_true rfl) rfl (fun Z C E => ?_)
  show G J Z 0 0 [] 2 [(0, .ref (J.2.2.2.2 i)), (1, .int x)] 0 []
  refine g_iload_n (pc := 0) C 1 rfl dJ1_charAt_3b067_0 ?_
  refine g_aload_n (pc := 1) C 0 rfl dJ1_charAt_3b067_1 ?_
  refine g_tlen (pc := 2) C hi dJ1_charAt_3b067_2 ?_
  refine g_callSX (pc := 3) C (w' := []) (As := [.int x, .int (nI (stL i))]) (st := []) (t_scheck h1 h2) Sub.nil kw_661 kw_662 kw_101 hn_J0_checkIndex_df160 kw_663 rfl (Nat.le_of_ble_eq_true rfl) (Nat.le_of_ble_eq_true rfl) (Nat.le_of_ble_eq_true rfl) (Nat.le_of_ble_eq_true rfl) (Nat.le_of_ble_eq_true rfl) dJ1_charAt_3b067_3 ?_
  refine g_aload_n (pc := 6) C 0 rfl dJ1_charAt_3b067_6 ?_
  refine g_iload_n (pc := 7) C 1 rfl dJ1_charAt_3b067_7 ?_
  refine g_tb (pc := 8) C hi hx dJ1_charAt_3b067_8 ?_
  refine g_sipush (pc := 9) C dJ1_charAt_3b067_9 cs_255 ?_
  refine g_iand (pc := 12) C dJ1_charAt_3b067_12 ?_
  refine g_i2c (pc := 13) C dJ1_charAt_3b067_13 ?_
  rw [sc_c2]
  exact g_zret C (sc_nar _) E dJ1_charAt_3b067_14
set_option maxRecDepth 100000 in
theorem t_charAt {J : Jt} {i : Nat} {x : Int32} (hi : i < 35) (hx : vp_in x (stL i)) : Mt J yJ0_charAt_5068e cJ0_charAt_5068e 2 (some .char) (rm_str 3) [.ref (J.2.2.2.1 i), .int x] [] (some (.int (stC i x.toNatClampNeg &&& 255))) [] := by
  refine Mt_of (own := RJ0) (by decide) rfl (Nat.le_of_ble_eq_true rfl) rfl (fun Z C E => ?_)
  show G J Z 0 0 [] 2 [(0, .ref (J.2.2.2.1 i)), (1, .int x)] 0 []
  refine g_aload_n (pc := 0) C 0 rfl dJ0_charAt_5068e_0 ?_
  refine g_callVS (pc := 1) C (w' := []) (As := []) (st := []) hi (t_isLatin1 hi) Sub.nil kw_654 kw_655 kw_656 kw_101 hy_J0_isLatin1_aae02 kw_657 rfl (Nat.le_of_ble_eq_true rfl) (Nat.le_of_ble_eq_true rfl) (Nat.le_of_ble_eq_true rfl) (Nat.le_of_ble_eq_true rfl) (Nat.le_of_ble_eq_true rfl) dJ0_charAt_5068e_1 ?_
  refine g_if_eq (pc := 4) C (tgt := 16) (P := none) (P' := some ()) (oo := ()) dJ0_charAt_5068e_4 rfl (by decide) (fun h => nomatch h) (fun h => ?_)
  refine g_aload_n (pc := 7) C 0 rfl dJ0_charAt_5068e_7 ?_
  refine g_getSv (pc := 8) C hi kw_1935 dJ0_charAt_5068e_8 ?_
  refine g_iload_n (pc := 11) C 1 rfl dJ0_charAt_5068e_11 ?_
  refine g_callSX (pc := 12) C (w' := []) (As := [.ref (J.2.2.2.2 i), .int x]) (st := []) (t_lcharAt hi hx) Sub.nil kw_658 kw_659 kw_102 hn_J1_charAt_3b067 kw_660 rfl (Nat.le_of_ble_eq_true rfl) (Nat.le_of_ble_eq_true rfl) (Nat.le_of_ble_eq_true rfl) (Nat.le_of_ble_eq_true rfl) (Nat.le_of_ble_eq_true rfl) dJ0_charAt_5068e_12 ?_
  exact g_zret C (sc_nar _) E dJ0_charAt_5068e_15
set_option maxRecDepth 100000 in
theorem t_length {J : Jt} {i : Nat} (hi : i < 35) : Mt J yJ0_length_8abf5 cJ0_length_8abf5 1 (some .int) (rm_str 1) [.ref (J.2.2.2.1 i)] [] (some (.int (nI (stL i)))) [] := by
  refine Mt_of (own := RJ0) (by decide) rfl (Nat.le_of_ble_eq_true rfl) rfl (fun Z C E => ?_)
  show G J Z 0 0 [] 1 [(0, .ref (J.2.2.2.1 i))] 0 []
  refine g_aload_n (pc := 0) C 0 rfl dJ0_length_8abf5_0 ?_
  refine g_getSv (pc := 1) C hi kw_1935 dJ0_length_8abf5_1 ?_
  refine g_tlen (pc := 4) C hi dJ0_length_8abf5_4 ?_
  refine g_aload_n (pc := 5) C 0 rfl dJ0_length_8abf5_5 ?_
  refine g_callVS (pc := 6) C (w' := []) (As := []) (st := [.int (nI (stL i))]) hi (t_coder hi) Sub.nil kw_640 kw_641 kw_642 kw_101 hy_J0_coder_7d493 kw_643 rfl (Nat.le_of_ble_eq_true rfl) (Nat.le_of_ble_eq_true rfl) (Nat.le_of_ble_eq_true rfl) (Nat.le_of_ble_eq_true rfl) (Nat.le_of_ble_eq_true rfl) dJ0_length_8abf5_6 ?_
  refine g_ishr (pc := 9) C dJ0_length_8abf5_9 ?_
  rw [st_shr]
  exact g_iret C E dJ0_length_8abf5_10
