/-! ===== bed, lies, reader, grown ===== -/
def vBed (π : Pg) (σ : Sg) (b : Nat) : Nat → Int32
  | 0 => nI (gFa π b)
  | 1 => nI (gLy σ b).length
  | 2 => bitsOf (gLy σ b)
  | 3 => if 0 < (gLy σ b).length then nI ((gLy σ b).getD 0 0) else -1
  | _ => orI (fun r => if gPl σ r = b then (1 : Int32) <<< (nI r &&& 31) else 0) (gR π)
section KB
variable {π : Pg} {σ : Sg} {s_year s_wet s_lost s_eaten s_tied s_ripeMany : Int32} {s_gone s_place s_heard s_many s_lying s_ripe : Nat → Int32}
variable {p_beds p_letters p_readers : Int32} {p_far p_drain p_length p_words p_home : Nat → Int32}
variable {m_s m_now m_bed m_letter m_reader m_refused : Nat → Int32} {m_beds m_letters m_readers m_thrown x_missing x_misused : Int32}
theorem m_firstIn (hS : RM π σ m_s) (os : OkS π σ) {b : Nat} (hb : b < 6) : f_X10_firstIn m_s (nI b) = some (if 0 < (gLy σ b).length then nI ((gLy σ b).getD 0 0) else -1) := by
  have h13 := (os.2.2.2.2.1 b).1
  have hma := hS.2.2.2.2.2.2.2.2.2.1 b hb
  unfold f_X10_firstIn
  simp (disch := omega) only [lit, nI_add, nI_mul, ixb_nI, nI_cl, if_true, hma, nI_eqI, nI_leJ]
  by_cases h : 0 < (gLy σ b).length
  · have hly := hS.2.2.2.2.2.2.2.2.2.2.1 b 0 hb h
    rw [Nat.add_zero] at hly
    rw [if_pos h]
    rw [if_neg (by omega), hly]
  · rw [if_neg h]
    rw [if_pos (by omega)]
theorem m_bed92 {n1 n2 : Int32} {b : Nat} (hb : b < 6) (hn : n1 = nI b) (hS : RM π σ m_s) (hQ : RPm π m_beds m_letters m_readers m_bed m_letter m_reader) (ok : OkP π) (os : OkS π σ) (th : Int32) : f_X10_bed_92 m_bed m_beds m_readers m_now n1 n2 FU 0 0 th m_refused m_s = some (orI (fun r => if gPl σ r = b then (1 : Int32) <<< (nI r &&& 31) else 0) (gR π), th, m_refused, m_s) := by
  subst hn
  have h5 := ok.2.2.1
  have h6 := ok.1
  have hr : m_readers = nI (gR π) := hQ.2.2.1
  refine loopF (F := fun n a x => f_X10_bed_92 m_bed m_beds m_readers m_now (nI b) n2 n a x th m_refused m_s) (B := gR π) (step := fun r a => a ||| (if gPl σ r = b then (1 : Int32) <<< (nI r &&& 31) else 0)) (fin := fun a => some (a, th, m_refused, m_s)) (fun n a => ?_) (fun n a k hk => ?_) (gR π) 0 FU 0 (by omega) (FU_gt (by omega))
  · show f_X10_bed_92 m_bed m_beds m_readers m_now (nI b) n2 (n + 1) a (nI (gR π)) th m_refused m_s = some (a, th, m_refused, m_s)
    rw [f_X10_bed_92, hr, if_pos (Int32.le_refl _)]
  · show f_X10_bed_92 m_bed m_beds m_readers m_now (nI b) n2 (n + 1) a (nI k) th m_refused m_s = f_X10_bed_92 m_bed m_beds m_readers m_now (nI b) n2 n _ _ th m_refused m_s
    have hpl := hS.2.2.2.2.2.2.2.1 k hk
    have hp9 := os.2.2.2.1 k hk
    rw [f_X10_bed_92, hr]
    simp (disch := omega) only [nI_leJ]
    rw [if_neg (by omega), show (90 : Int32) + nI k = nI (90 + k) from nI_add 90 k, ixb_nI (by omega) (by omega), if_pos rfl, nI_cl (by omega), hpl]
    simp (disch := omega) only [nI_eqI, nI_1]
    by_cases h : gPl σ k = b
    · rw [if_pos h, if_pos h]
    · rw [if_neg h, if_neg h]
theorem k_bed (hS : RS π σ (s_year, s_wet, s_lost, s_eaten, s_tied, s_ripeMany, s_gone, s_place, s_heard, s_many, s_lying, s_ripe)) (hM : RM π σ m_now) (hP : RPc π (p_beds, p_letters, p_readers, p_far, p_drain, p_length, p_words, p_home)) (hQ : RPm π m_beds m_letters m_readers m_bed m_letter m_reader) (ok : OkP π) (os : OkS π σ) (hc : RC x_missing x_misused m_refused) (n1 n2 : Int32) :
    ∃ ex r mi mu rf s2, f_X9_bed x_missing x_misused s_place s_many s_lying p_beds p_readers p_far n1 n2 = some (ex, r, mi, mu) ∧ f_X10_bed m_thrown m_refused m_bed m_beds m_readers m_now m_s n1 n2 = some (r, nI ex, rf, s2) ∧ (ex = 0 ∨ ex = 1 ∨ ex = 2) ∧ RC mi mu rf := by
  have h6 := ok.1
  have e0 := hQ.1
  subst e0
  unfold f_X9_bed f_X10_bed
  rw [c_one, hP.1, m_isB _ (by omega)]
  by_cases h : 0 ≤ n1 ∧ n1 < nI (gB π)
  · obtain ⟨b, hb, rfl⟩ := inL (B := gB π) (by omega) h.1 h.2
    rw [if_pos h, if_pos h]
    by_cases h2 : 0 ≤ n2 ∧ n2 ≤ 4
    · obtain ⟨k, hk, rfl⟩ := inN (B := 4) (by decide) h2.1 h2.2
      obtain ⟨m2, e2, hT⟩ := m_take (m_s := m_s) ok os hM
      have hfa := hP.2.2.2.1 b hb
      have hmf := hQ.2.2.2.1 b hb
      have hb6 : b < 6 := by omega
      have hma := hS.2.2.2.2.2.2.2.2.2.1 b hb6
      have hmm := hT.2.2.2.2.2.2.2.2.2.1 b hb6
      have hcs : k = 0 ∨ k = 1 ∨ k = 2 ∨ k = 3 ∨ k = 4 := by omega
      refine ⟨0, vBed π σ b k, x_missing, x_misused, m_refused, m2, ?_, ?_, Or.inl rfl, hc⟩
      · rw [b2_s, if_pos rfl, c_range, if_pos h2, b2_s, if_pos rfl, c_wordsIn hS os hb6, b1_s, show (0 : Int32) = nI 0 from rfl, c_lyingAt hS os hb6 (k := 0) (by omega), b1_s, c_readersAt hS hP ok os hb6, b1_s]
        simp (disch := omega) only [ixb_nI, nI_cl, if_true, hfa, hma]
        rcases hcs with rfl | rfl | rfl | rfl | rfl <;> rfl
      · rw [b3_s, if_neg (by decide), m_within, b1_s, if_pos h2, m_may1, b3_s, if_neg (by decide), e2, b1_s, m_bed92 hb6 rfl hT hQ ok os, m_wordsIn hT os hb6, b1_s, m_firstIn hT os hb6, b1_s]
        simp (disch := omega) only [ixb_nI, nI_cl, if_true, hmf, show (84 : Int32) + nI b = nI (84 + b) from nI_add 84 b, hmm]
        rcases hcs with rfl | rfl | rfl | rfl | rfl <;> rfl
    · refine ⟨2, 0, x_missing, x_misused + 1, upd m_refused 1 (m_refused 1 + 1), m_s, ?_, ?_, Or.inr (Or.inr rfl), rc_mu hc⟩
      · rw [b2_s, if_pos rfl, c_range, if_neg h2]; rfl
      · rw [b3_s, if_neg (by decide), m_within, b1_s, if_neg h2]; rfl
  · refine ⟨1, 0, x_missing + 1, x_misused, upd m_refused 0 (m_refused 0 + 1), m_s, ?_, ?_, Or.inr (Or.inl rfl), rc_mi hc⟩
    · rw [if_neg h]; rfl
    · rw [if_neg h]; rfl
theorem k_lies (hS : RS π σ (s_year, s_wet, s_lost, s_eaten, s_tied, s_ripeMany, s_gone, s_place, s_heard, s_many, s_lying, s_ripe)) (hM : RM π σ m_now) (hP : RPc π (p_beds, p_letters, p_readers, p_far, p_drain, p_length, p_words, p_home)) (hQ : RPm π m_beds m_letters m_readers m_bed m_letter m_reader) (ok : OkP π) (os : OkS π σ) (hc : RC x_missing x_misused m_refused) (n1 n2 : Int32) :
    ∃ ex r mi mu rf, f_X9_lies x_missing x_misused s_many s_lying p_beds n1 n2 = some (ex, r, mi, mu) ∧ f_X10_lies m_thrown m_refused m_beds m_now n1 n2 = some (r, nI ex, rf) ∧ (ex = 0 ∨ ex = 1 ∨ ex = 2) ∧ RC mi mu rf := by
  have h6 := ok.1
  unfold f_X9_lies f_X10_lies
  rw [c_one, hP.1, hQ.1, m_isB _ (by omega)]
  by_cases h : 0 ≤ n1 ∧ n1 < nI (gB π)
  · obtain ⟨b, hb, rfl⟩ := inL (B := gB π) (by omega) h.1 h.2
    rw [if_pos h, if_pos h]
    have hb6 : b < 6 := by omega
    by_cases h2 : 0 ≤ n2
    · obtain ⟨k, hk, rfl⟩ := inN (B := 2147483647) (by decide) h2 (Int32.le_iff_toInt_le.mpr (by have := Int32.toInt_lt n2; rw [nI_toInt (by omega)]; omega))
      have h13 := (os.2.2.2.2.1 b).1
      have hmm := hM.2.2.2.2.2.2.2.2.2.1 b hb6
      refine ⟨0, if k < (gLy σ b).length then nI ((gLy σ b).getD k 0) else -1, x_missing, x_misused, m_refused, ?_, ?_, Or.inl rfl, hc⟩
      · rw [b2_s, if_pos rfl, c_place, if_pos h2, b2_s, if_pos rfl, c_lyingAt hS os hb6 (by omega), b1_s]
      · rw [b3_s, if_neg (by decide), if_neg (Int32.not_lt.mpr h2)]
        unfold f_X10_lies_24
        rw [m_may1, b3_s, if_neg (by decide), show (84 : Int32) + nI b = nI (84 + b) from nI_add 84 b, ixb_nI (by omega) (by omega), if_pos rfl, nI_cl (by omega), hmm]
        simp (disch := omega) only [nI_leJ]
        by_cases h3 : k < (gLy σ b).length
        · have hly := hM.2.2.2.2.2.2.2.2.2.2.1 b k hb6 h3
          rw [if_neg (by omega), if_pos h3]
          simp (disch := omega) only [lit, nI_add, nI_mul, ixb_nI, nI_cl, if_true, hly]
          first | done | rfl
        · rw [if_pos (by omega), if_neg h3]; first | done | rfl
    · refine ⟨2, 0, x_missing, x_misused + 1, upd m_refused 1 (m_refused 1 + 1), ?_, ?_, Or.inr (Or.inr rfl), rc_mu hc⟩
      · rw [b2_s, if_pos rfl, c_place, if_neg h2]; rfl
      · rw [b3_s, if_neg (by decide), if_pos (Int32.not_le.mp h2)]; rfl
  · refine ⟨1, 0, x_missing + 1, x_misused, upd m_refused 0 (m_refused 0 + 1), ?_, ?_, Or.inr (Or.inl rfl), rc_mi hc⟩
    · rw [if_neg h]; rfl
    · rw [if_neg h]; rfl
theorem k_reader (hS : RS π σ (s_year, s_wet, s_lost, s_eaten, s_tied, s_ripeMany, s_gone, s_place, s_heard, s_many, s_lying, s_ripe)) (hM : RM π σ m_now) (hP : RPc π (p_beds, p_letters, p_readers, p_far, p_drain, p_length, p_words, p_home)) (hQ : RPm π m_beds m_letters m_readers m_bed m_letter m_reader) (ok : OkP π) (hc : RC x_missing x_misused m_refused) (n1 n2 : Int32) :
    ∃ ex r mi mu rf, f_X9_reader x_missing x_misused s_place s_heard p_readers n1 n2 = some (ex, r, mi, mu) ∧ f_X10_reader m_thrown m_refused m_readers m_now n1 n2 = some (r, nI ex, rf) ∧ (ex = 0 ∨ ex = 1 ∨ ex = 2) ∧ RC mi mu rf := by
  have h6 := ok.2.2.1
  unfold f_X9_reader f_X10_reader
  rw [c_one, hP.2.2.1, hQ.2.2.1, m_isR _ (by omega)]
  by_cases h : 0 ≤ n1 ∧ n1 < nI (gR π)
  · obtain ⟨b, hb, rfl⟩ := inL (B := gR π) (by omega) h.1 h.2
    rw [if_pos h, if_pos h]
    by_cases h2 : 0 ≤ n2 ∧ n2 ≤ 1
    · obtain ⟨k, hk, rfl⟩ := inN (B := 1) (by decide) h2.1 h2.2
      have hpl := hS.2.2.2.2.2.2.2.1 b hb
      have hhe := hS.2.2.2.2.2.2.2.2.1 b hb
      have hmp := hM.2.2.2.2.2.2.2.1 b hb
      have hmh := hM.2.2.2.2.2.2.2.2.1 b hb
      have hcs : k = 0 ∨ k = 1 := by omega
      refine ⟨0, if k = 0 then nI (gPl σ b) else gHe σ b, x_missing, x_misused, m_refused, ?_, ?_, Or.inl rfl, hc⟩
      · rw [b2_s, if_pos rfl, c_range, if_pos h2, b2_s, if_pos rfl]
        simp (disch := omega) only [ixb_nI, nI_cl, if_true, hpl, hhe]
        rcases hcs with rfl | rfl <;> rfl
      · rw [b3_s, if_neg (by decide), m_within, b1_s, if_pos h2, m_may1, b3_s, if_neg (by decide)]
        simp (disch := omega) only [ixb_nI, nI_cl, if_true, show (90 : Int32) + nI b = nI (90 + b) from nI_add 90 b, show (95 : Int32) + nI b = nI (95 + b) from nI_add 95 b, hmp, hmh]
        rcases hcs with rfl | rfl <;> rfl
    · refine ⟨2, 0, x_missing, x_misused + 1, upd m_refused 1 (m_refused 1 + 1), ?_, ?_, Or.inr (Or.inr rfl), rc_mu hc⟩
      · rw [b2_s, if_pos rfl, c_range, if_neg h2]; rfl
      · rw [b3_s, if_neg (by decide), m_within, b1_s, if_neg h2]; rfl
  · refine ⟨1, 0, x_missing + 1, x_misused, upd m_refused 0 (m_refused 0 + 1), ?_, ?_, Or.inr (Or.inl rfl), rc_mi hc⟩
    · rw [if_neg h]; rfl
    · rw [if_neg h]; rfl
theorem k_grown (hS : RS π σ (s_year, s_wet, s_lost, s_eaten, s_tied, s_ripeMany, s_gone, s_place, s_heard, s_many, s_lying, s_ripe)) (hM : RM π σ m_now) (os : OkS π σ) (hc : RC x_missing x_misused m_refused) (n1 : Int32) :
    ∃ ex r mu rf, f_X9_grown x_misused s_ripeMany s_ripe n1 = some (ex, r, mu) ∧ f_X10_grown m_thrown m_refused m_now n1 = some (r, if ex = 0 then 0 else 1, rf) ∧ (ex = 0 ∨ ex = 2) ∧ RC x_missing mu rf := by
  have h60 := os.2.2.2.2.2.1
  have hrm := hS.2.2.2.2.2.1
  have hmm := hM.2.2.2.2.2.1
  unfold f_X9_grown f_X10_grown
  by_cases h2 : 0 ≤ n1
  · obtain ⟨k, hk, rfl⟩ := inN (B := 2147483647) (by decide) h2 (Int32.le_iff_toInt_le.mpr (by have := Int32.toInt_lt n1; rw [nI_toInt (by omega)]; omega))
    rw [c_place, if_pos h2, if_neg (Int32.not_lt.mpr h2)]
    refine ⟨0, if k < (gRp σ).length then nI ((gRp σ).getD k 0) else -1, x_misused, m_refused, ?_, ?_, Or.inl rfl, hc⟩
    · rw [b2_s, if_pos rfl, hrm]
      simp (disch := omega) only [lit, nI_leJ]
      by_cases h3 : k < (gRp σ).length
      · have hri := hS.2.2.2.2.2.2.2.2.2.2.2 k h3
        rw [if_neg (by omega), if_neg (by omega), ixb_nI (by omega) (by omega), if_pos rfl, nI_cl (by omega), hri, if_pos h3]
      · rw [if_pos (by omega), if_neg h3]
    · unfold f_X10_grown_15
      rw [m_may1, b3_s, if_neg (by decide), show (160 : Int32).toNatClampNeg = 160 from rfl, hmm, show ixb 160 165 = true from rfl, if_pos rfl]
      simp (disch := omega) only [nI_leJ]
      by_cases h3 : k < (gRp σ).length
      · have hri := hM.2.2.2.2.2.2.2.2.2.2.2 k h3
        rw [if_neg (by omega), if_pos h3, show (100 : Int32) + nI k = nI (100 + k) from nI_add 100 k, ixb_nI (by omega) (by omega), if_pos rfl, nI_cl (by omega), hri]
        first | done | rfl
      · rw [if_pos (by omega), if_neg h3]; first | done | rfl
  · rw [c_place, if_neg h2, if_pos (Int32.not_le.mp h2)]
    refine ⟨2, 0, x_misused + 1, upd m_refused 1 (m_refused 1 + 1), rfl, rfl, Or.inr rfl, rc_mu hc⟩
end KB
