/-! ===== told, letter, word, bed, lies, reader, grown ===== -/
def vTold (π : Pg) (σ : Sg) (bl rs : Int32) : Nat → Int32
  | 0 => nI (gB π)
  | 1 => nI (gL π)
  | 2 => nI (gR π)
  | 3 => nI (gYr σ)
  | 4 => nI (gWt σ)
  | 5 => sumI (fun l => nI (gLeft π σ l)) (gL π)
  | 6 => sumI (fun b => nI (gLy σ b).length) 6
  | 7 => nI (gLo σ)
  | 8 => nI (gEa σ)
  | 9 => bl
  | 10 => rs
  | _ => nI (gRp σ).length
def vLetter (π : Pg) (σ : Sg) (l : Nat) : Nat → Int32
  | 0 => nI (gDr π l)
  | 1 => nI (gLe π l)
  | 2 => nI (gLeft π σ l)
  | 3 => gNext π σ l
  | _ => tdB (gTi σ) l
section KA
variable {π : Pg} {σ : Sg} {s_year s_wet s_lost s_eaten s_tied s_ripeMany : Int32} {s_gone s_place s_heard s_many s_lying s_ripe : Nat → Int32}
variable {p_beds p_letters p_readers : Int32} {p_far p_drain p_length p_words p_home : Nat → Int32}
variable {m_s m_now m_bed m_letter m_reader m_refused : Nat → Int32} {m_beds m_letters m_readers m_thrown x_missing x_misused : Int32}
theorem m_leftAll (hS : RM π σ m_s) (hP : RPm π m_beds m_letters m_readers m_bed m_letter m_reader) (ok : OkP π) (os : OkS π σ) : f_X10_leftAll m_letter m_letters m_s = some (sumI (fun l => nI (gLeft π σ l)) (gL π)) := by
  have h1 := ok.2.1
  have hl : m_letters = nI (gL π) := hP.2.1
  unfold f_X10_leftAll
  refine loopF (F := fun n a x => f_X10_leftAll_4 m_letter m_letters m_s n a x) (B := gL π) (step := fun k a => a + nI (gLeft π σ k)) (fin := some) (fun n a => ?_) (fun n a k hk => ?_) (gL π) 0 FU 0 (by omega) (FU_gt (by omega))
  · show f_X10_leftAll_4 m_letter m_letters m_s (n + 1) a (nI (gL π)) = some a
    rw [f_X10_leftAll_4, hl, if_pos (Int32.le_refl _)]
  · show f_X10_leftAll_4 m_letter m_letters m_s (n + 1) a (nI k) = f_X10_leftAll_4 m_letter m_letters m_s n _ _
    rw [f_X10_leftAll_4, hl]
    simp (disch := omega) only [nI_leJ]
    rw [if_neg (by omega), m_leftOf hS hP ok os hk, b1_s, nI_1]
theorem m_sum84 (hS : RM π σ m_s) : f_X10_sumOf m_s 84 6 = some (sumI (fun b => nI (gLy σ b).length) 6) := by
  have hma := hS.2.2.2.2.2.2.2.2.2.1
  unfold f_X10_sumOf
  refine loopF (F := fun n a x => f_X10_sumOf_5 m_s 84 6 n a x) (B := 6) (step := fun k a => a + nI (gLy σ k).length) (fin := some) (fun n a => ?_) (fun n a k hk => ?_) 6 0 FU 0 (by omega) (FU_gt (by omega))
  · show f_X10_sumOf_5 m_s 84 6 (n + 1) a (nI 6) = some a
    rw [f_X10_sumOf_5]; rfl
  · show f_X10_sumOf_5 m_s 84 6 (n + 1) a (nI k) = f_X10_sumOf_5 m_s 84 6 n _ _
    rw [f_X10_sumOf_5]
    simp (disch := omega) only [lit, nI_leJ, nI_add, ixb_nI, nI_cl, hma k hk, if_true]
    rw [if_neg (by omega)]
theorem k_told {b_lines x_refusedSteps m_refusedSteps m_written : Int32} (hS : RS π σ (s_year, s_wet, s_lost, s_eaten, s_tied, s_ripeMany, s_gone, s_place, s_heard, s_many, s_lying, s_ripe)) (hM : RM π σ m_now) (hP : RPc π (p_beds, p_letters, p_readers, p_far, p_drain, p_length, p_words, p_home)) (hQ : RPm π m_beds m_letters m_readers m_bed m_letter m_reader) (ok : OkP π) (os : OkS π σ) (hc : RC x_missing x_misused m_refused) (h9 : b_lines = m_written) (h10 : x_refusedSteps = m_refusedSteps) (n : Int32) :
    ∃ ex r mu rf s2, f_X9_told x_refusedSteps x_misused s_year s_wet s_lost s_eaten s_ripeMany s_gone s_many p_beds p_letters p_readers p_length b_lines n = some (ex, r, mu) ∧ f_X10_told m_thrown m_refused m_letter m_beds m_letters m_readers m_refusedSteps m_now m_s m_written n = some (r, if ex = 0 then 0 else 1, rf, s2) ∧ (ex = 0 ∨ ex = 2) ∧ RC x_missing mu rf := by
  unfold f_X9_told f_X10_told
  rw [c_range, m_within]
  by_cases h : 0 ≤ n ∧ n ≤ 11
  · obtain ⟨k, hk, rfl⟩ := inN (B := 11) (by decide) h.1 h.2
    obtain ⟨m2, e2, hT⟩ := m_take (m_s := m_s) ok os hM
    have hcs : k = 0 ∨ k = 1 ∨ k = 2 ∨ k = 3 ∨ k = 4 ∨ k = 5 ∨ k = 6 ∨ k = 7 ∨ k = 8 ∨ k = 9 ∨ k = 10 ∨ k = 11 := by omega
    refine ⟨0, vTold π σ b_lines x_refusedSteps k, x_misused, m_refused, m2, ?_, ?_, Or.inl rfl, hc⟩
    · rw [if_pos h, b2_s, if_pos rfl, c_leftOfAll hS hP ok os, b1_s, c_lyingInAll hS, b1_s, hP.1, hP.2.1, hP.2.2.1, hS.1, hS.2.1, hS.2.2.1, hS.2.2.2.1, hS.2.2.2.2.2.1]
      rcases hcs with rfl | rfl | rfl | rfl | rfl | rfl | rfl | rfl | rfl | rfl | rfl | rfl <;> rfl
    · rw [if_pos h, b1_s, m_may1, b3_s, if_neg (by decide), e2, b1_s, m_leftAll hT hQ ok os, m_sum84 hT, b1_s, b1_s, hQ.1, hQ.2.1, hQ.2.2.1, h9, h10]
      rcases hcs with rfl | rfl | rfl | rfl | rfl | rfl | rfl | rfl | rfl | rfl | rfl | rfl
      · rfl
      · rfl
      · rfl
      · exact congrArg (fun v => some (v, 0, m_refused, m2)) hT.1
      · exact congrArg (fun v => some (v, 0, m_refused, m2)) hT.2.1
      · rfl
      · rfl
      · exact congrArg (fun v => some (v, 0, m_refused, m2)) hT.2.2.1
      · exact congrArg (fun v => some (v, 0, m_refused, m2)) hT.2.2.2.1
      · rfl
      · rfl
      · exact congrArg (fun v => some (v, 0, m_refused, m2)) hT.2.2.2.2.2.1
  · refine ⟨2, 0, x_misused + 1, upd m_refused 1 (m_refused 1 + 1), m_s, ?_, ?_, Or.inr rfl, rc_mu hc⟩
    · rw [if_neg h]; rfl
    · rw [if_neg h]; rfl
theorem k_letter (hS : RS π σ (s_year, s_wet, s_lost, s_eaten, s_tied, s_ripeMany, s_gone, s_place, s_heard, s_many, s_lying, s_ripe)) (hM : RM π σ m_now) (hP : RPc π (p_beds, p_letters, p_readers, p_far, p_drain, p_length, p_words, p_home)) (hQ : RPm π m_beds m_letters m_readers m_bed m_letter m_reader) (ok : OkP π) (os : OkS π σ) (hc : RC x_missing x_misused m_refused) (n1 n2 : Int32) :
    ∃ ex r mi mu rf s2, f_X9_letter x_missing x_misused s_tied s_gone p_letters p_drain p_length p_words n1 n2 = some (ex, r, mi, mu) ∧ f_X10_letter m_thrown m_refused m_letter m_letters m_now m_s n1 n2 = some (r, nI ex, rf, s2) ∧ (ex = 0 ∨ ex = 1 ∨ ex = 2) ∧ RC mi mu rf := by
  have h6 := ok.2.1
  unfold f_X9_letter f_X10_letter
  rw [c_one, hP.2.1, hQ.2.1, m_isL _ (by omega)]
  by_cases h : 0 ≤ n1 ∧ n1 < nI (gL π)
  · obtain ⟨l, hl, rfl⟩ := inL (B := gL π) (by omega) h.1 h.2
    rw [if_pos h, if_pos h]
    by_cases h2 : 0 ≤ n2 ∧ n2 ≤ 4
    · obtain ⟨k, hk, rfl⟩ := inN (B := 4) (by decide) h2.1 h2.2
      obtain ⟨m2, e2, hT⟩ := m_take (m_s := m_s) ok os hM
      have h8 := (ok.2.2.2.2.1 l hl).2.2.1
      have hlf : gLeft π σ l ≤ 8 := by unfold gLeft; omega
      have hle := hP.2.2.2.2.1 l hl
      have hmle := hQ.2.2.2.2.1 l hl
      have hti := hT.2.2.2.2.1 l hl
      have hcs : k = 0 ∨ k = 1 ∨ k = 2 ∨ k = 3 ∨ k = 4 := by omega
      refine ⟨0, vLetter π σ l k, x_missing, x_misused, m_refused, m2, ?_, ?_, Or.inl rfl, hc⟩
      · rw [b2_s, if_pos rfl, c_range, if_pos h2, b2_s, if_pos rfl, c_leftOf hS hP ok os hl, b1_s, c_nextOf hS hP ok os hl, b1_s, c_isTied hS hl, b1_s]
        simp (disch := omega) only [ixb_nI, nI_cl, if_true, hle.1, hle.2.1]
        rcases hcs with rfl | rfl | rfl | rfl | rfl
        · rfl
        · rfl
        · rfl
        · rfl
        · show (if tdB (gTi σ) l = 0 then some (0, 0, x_missing, x_misused) else some (0, 1, x_missing, x_misused)) = some (0, tdB (gTi σ) l, x_missing, x_misused)
          unfold tdB
          cases gTi σ l <;> rfl
      · rw [b3_s, if_neg (by decide), m_within, b1_s, if_pos h2, m_may1, b3_s, if_neg (by decide), e2, b1_s, m_leftOf hT hQ ok os hl, b1_s, b1_s]
        rcases hcs with rfl | rfl | rfl | rfl | rfl
        · rw [if_neg (by decide)]
          simp (disch := omega) only [lit, nI_mul, nI_add, ixb_nI, nI_cl, if_true, Nat.add_zero, hmle.1]
          rfl
        · rw [if_neg (by decide)]
          simp (disch := omega) only [lit, nI_mul, nI_add, ixb_nI, nI_cl, if_true, hmle.2.1]
          rfl
        · rfl
        · rw [if_pos (by decide), if_neg (by decide), if_neg (by decide)]
          show _ = some (gNext π σ l, 0, m_refused, m2)
          unfold gNext
          by_cases hz : gLeft π σ l = 0
          · rw [if_pos hz, if_pos (by rw [hz]; rfl)]
          · have hlt : gGo σ l + 0 < gLe π l := by unfold gLeft at hz; omega
            have hw := m_wordOf hT hQ ok os hl (k := 0) hlt
            rw [if_neg hz, if_neg (nI_ne0 (by omega) (by omega)), show (0 : Int32) = nI 0 from rfl, hw, b1_s]
            rfl
        · rw [if_pos (by decide), if_neg (by decide), if_pos (by decide)]
          simp (disch := omega) only [lit, nI_add, ixb_nI, nI_cl, if_true, hti]
          rfl
    · refine ⟨2, 0, x_missing, x_misused + 1, upd m_refused 1 (m_refused 1 + 1), m_s, ?_, ?_, Or.inr (Or.inr rfl), rc_mu hc⟩
      · rw [b2_s, if_pos rfl, c_range, if_neg h2]; rfl
      · rw [b3_s, if_neg (by decide), m_within, b1_s, if_neg h2]; rfl
  · refine ⟨1, 0, x_missing + 1, x_misused, upd m_refused 0 (m_refused 0 + 1), m_s, ?_, ?_, Or.inr (Or.inl rfl), rc_mi hc⟩
    · rw [if_neg h]; rfl
    · rw [if_neg h]; rfl
theorem k_word (hP : RPc π (p_beds, p_letters, p_readers, p_far, p_drain, p_length, p_words, p_home)) (hQ : RPm π m_beds m_letters m_readers m_bed m_letter m_reader) (ok : OkP π) (hc : RC x_missing x_misused m_refused) (n1 n2 : Int32) :
    ∃ ex r mi mu rf, f_X9_word x_missing x_misused p_letters p_length p_words n1 n2 = some (ex, r, mi, mu) ∧ f_X10_word m_thrown m_refused m_letter m_letters n1 n2 = some (r, nI ex, rf) ∧ (ex = 0 ∨ ex = 1 ∨ ex = 2) ∧ RC mi mu rf := by
  have h6 := ok.2.1
  unfold f_X9_word f_X10_word
  rw [c_one, hP.2.1, hQ.2.1, m_isL _ (by omega)]
  by_cases h : 0 ≤ n1 ∧ n1 < nI (gL π)
  · obtain ⟨l, hl, rfl⟩ := inL (B := gL π) (by omega) h.1 h.2
    have h8 := (ok.2.2.2.2.1 l hl).2.2.1
    have hle := hP.2.2.2.2.1 l hl
    have hmle := hQ.2.2.2.2.1 l hl
    rw [if_pos h, if_pos h]
    have e10 : f_X10_within n2 0 ((m_letter ((10 * nI l) + 1).toNatClampNeg) - 1) = some (if 0 ≤ n2 ∧ n2 ≤ nI (gLe π l) - 1 then 1 else 0) := by
      rw [show (10 : Int32) * nI l + 1 = nI (10 * l + 1) by rw [show (10 : Int32) = nI 10 from rfl, nI_mul, nI_1], nI_cl (by omega), hmle.2.1, m_within]
    have x60 : ixb ((10 * nI l) + 1) 60 = true := by
      rw [show (10 : Int32) * nI l + 1 = nI (10 * l + 1) by rw [show (10 : Int32) = nI 10 from rfl, nI_mul, nI_1]]; exact ixb_nI (by omega) (by omega)
    by_cases h2 : 0 ≤ n2 ∧ n2 ≤ nI (gLe π l) - 1
    · obtain ⟨k, hk, rfl⟩ := inL (B := gLe π l) (by omega) h2.1 ((le_pred (by omega)).mp h2.2)
      refine ⟨0, nI (gWd π l k), x_missing, x_misused, m_refused, ?_, ?_, Or.inl rfl, hc⟩
      · rw [b2_s, if_pos rfl, ixb_nI (by omega) (by omega), if_pos rfl, nI_cl (by omega), hle.2.1, c_range, if_pos h2, b2_s, if_pos rfl, c_wordAt hP ok hl hk, b1_s]
      · rw [b3_s, if_neg (by decide), x60, if_pos rfl, e10, b1_s, if_pos h2, m_may1, b3_s, if_neg (by decide)]
        simp (disch := omega) only [lit, nI_mul, nI_add, ixb_nI, nI_cl, if_true]
        rw [hmle.2.2 k hk]
    · refine ⟨2, 0, x_missing, x_misused + 1, upd m_refused 1 (m_refused 1 + 1), ?_, ?_, Or.inr (Or.inr rfl), rc_mu hc⟩
      · rw [b2_s, if_pos rfl, ixb_nI (by omega) (by omega), if_pos rfl, nI_cl (by omega), hle.2.1, c_range, if_neg h2]; rfl
      · rw [b3_s, if_neg (by decide), x60, if_pos rfl, e10, b1_s, if_neg h2]; rfl
  · refine ⟨1, 0, x_missing + 1, x_misused, upd m_refused 0 (m_refused 0 + 1), ?_, ?_, Or.inr (Or.inl rfl), rc_mi hc⟩
    · rw [if_neg h]; rfl
    · rw [if_neg h]; rfl
end KA
