/-! ===== the law's loop ===== -/
theorem sub8 {L : Nat} (hL : L ≤ 4096) : (nI L - 8).toInt = (L : Int) - 8 := by
  by_cases h : 8 ≤ L
  · rw [show (8 : Int32) = nI 8 from rfl, nI_sub h, nI_toInt (by omega)]
    omega
  · obtain rfl | rfl | rfl | rfl | rfl | rfl | rfl | rfl : L = 0 ∨ L = 1 ∨ L = 2 ∨ L = 3 ∨ L = 4 ∨ L = 5 ∨ L = 6 ∨ L = 7 := by omega
    all_goals decide
def LVi (b x oa i : Nat) (mo : Nat → Nat) : List (Nat × Value) := [(4, .int (nI i)), (0, .ref b), (1, .ref x), (2, .ref (mo 0)), (3, .ref oa)]
set_option maxRecDepth 100000 in
theorem la_loop {J : Jt} {Z : Zt} {b L x oa : Nat} {xs : Nat → Int32} {mo : Nat → Nat} (hJ : J.1.stackTraces = false) (C : Cx J Z cL_law_ 8 RL (some .boolean) room_1) (hX : ScrZ Z b L xs) (hL : L ≤ 4096) (hend : ∀ (n k i : Nat) (w : va_W), n ≤ room_1.cells → k ≤ room_1.slots → G J Z n k w 8 (LVi b x oa i mo) 2663 []) : ∀ (d i n k : Nat) (w : va_W), L < i + 8 * (d + 1) → i ≤ 4104 → n + 20 * d ≤ room_1.cells → k + 400 * d ≤ room_1.slots → Inv J x oa mo w → G J Z n k w 8 (LVi b x oa i mo) 23 [] := by
  intro d
  induction d with
  | zero =>
    intro i n k w h1 h2 hn hk hI
    refine g_iload (pc := 23) C 0 rfl dL_law__23 ?_
    refine g_aload_n (pc := 25) C 1 rfl dL_law__25 ?_
    refine g_slen (pc := 26) C hX dL_law__26 ?_
    refine g_bipush (pc := 27) C dL_law__27 (show (Int8.ofInt 8).toInt32 = 8 by decide) ?_
    refine g_isub (pc := 29) C dL_law__29 ?_
    have hc : nI L - 8 < nI i := by
      rw [Int32.lt_iff_toInt_lt, sub8 hL, nI_toInt (by omega)]
      omega
    exact g_icmp_gt (pc := 30) C (tgt := 2663) dL_law__30 rfl (if_pos hc : (if nI L - 8 < nI i then some () else none) = some ()) (fun _ => hend n k i w (Nat.le_trans (Nat.le_add_right _ _) hn) (Nat.le_trans (Nat.le_add_right _ _) hk)) (fun h9 => nomatch h9)
  | succ d ih =>
    intro i n k w h1 h2 hn hk hI
    refine g_iload (pc := 23) C 0 rfl dL_law__23 ?_
    refine g_aload_n (pc := 25) C 1 rfl dL_law__25 ?_
    refine g_slen (pc := 26) C hX dL_law__26 ?_
    refine g_bipush (pc := 27) C dL_law__27 (show (Int8.ofInt 8).toInt32 = 8 by decide) ?_
    refine g_isub (pc := 29) C dL_law__29 ?_
    by_cases hc : nI L - 8 < nI i
    · exact g_icmp_gt (pc := 30) C (tgt := 2663) dL_law__30 rfl (if_pos hc : (if nI L - 8 < nI i then some () else none) = some ()) (fun _ => hend n k i w (Nat.le_trans (Nat.le_add_right _ _) hn) (Nat.le_trans (Nat.le_add_right _ _) hk)) (fun h9 => nomatch h9)
    · refine g_icmp_gt (pc := 30) C (tgt := 2663) dL_law__30 rfl (if_neg hc : (if nI L - 8 < nI i then none else some ()) = some ()) (fun h9 => nomatch h9) (fun _ => ?_)
      have hi : i + 8 ≤ L := by
        rw [Int32.lt_iff_toInt_lt, sub8 hL, nI_toInt (by omega)] at hc
        omega
      refine la_round hJ C hX hL hi (Nat.le_trans (by omega) hn) (Nat.le_trans (by omega) hk) hI (fun w' hI' => ?_)
      refine g_iinc (pc := 2657) (j := 0) C (LVi b x oa (i + 8) mo) dL_law__2657 rfl (show nI i + 8 = nI (i + 8) from nI_add i 8) (by decide) rfl ?_
      refine g_goto (pc := 2660) C (tgt := 23) dL_law__2660 rfl ?_
      exact ih (i + 8) (n + 20) (k + 400) w' (by omega) (by omega) (Nat.le_trans (by omega) hn) (Nat.le_trans (by omega) hk) hI'
