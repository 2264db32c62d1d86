/-! ===== hearers, news, full, drains, unread, coming ===== -/
section KF
variable {π : Pg} {σ : Sg} {s_year s_wet s_lost s_eaten s_tied s_ripeMany : Int32} {s_gone s_place s_heard s_many s_lying s_ripe : Nat → Int32}
variable {p_beds p_letters p_readers : Int32} {p_far p_drain p_length p_words p_home : Nat → Int32}
variable {m_s m_now m_bed m_letter m_reader m_refused : Nat → Int32} {m_beds m_letters m_readers m_thrown x_missing x_misused : Int32} {r_n : Nat} {r_v : Nat → Int32}
theorem b_un (i : Nat) : bt 1 i = decide (i = 0) := by
  by_cases h : i < 32
  · revert i; decide +kernel
  · rw [b_big (by omega), decide_eq_false (by omega)]
theorem and_one (x : Int32) : x &&& 1 = if bt x 0 then 1 else 0 := by
  apply b_ext
  intro i hi
  rw [b_and, b_un]
  by_cases h : i = 0
  · subst h
    cases bt x 0
    · rw [if_neg (by decide), b_0]; rfl
    · rw [if_pos rfl, b_un]; rfl
  · rw [decide_eq_false h, Bool.and_false]
    cases bt x 0
    · rw [if_neg (by decide), b_0]
    · rw [if_pos rfl, b_un, decide_eq_false h]
theorem zsh : ∀ r, r < 32 → (0 : Int32) <<< (nI r &&& 31) = 0 := by decide +kernel
theorem c_hearers12 {n1 : Int32} (hS : RS π σ (s_year, s_wet, s_lost, s_eaten, s_tied, s_ripeMany, s_gone, s_place, s_heard, s_many, s_lying, s_ripe)) (hp : p_readers = nI (gR π)) (ok : OkP π) : f_X9_hearers_12 s_heard p_readers n1 FU 0 0 x_misused = some (0, orI (fun r => if hasW (gHe σ r) n1 then (1 : Int32) <<< (nI r &&& 31) else 0) (gR π), x_misused) := by
  have h5 := ok.2.2.1
  refine loopF (F := fun n a x => f_X9_hearers_12 s_heard p_readers n1 n a x x_misused) (B := gR π) (step := fun r a => a ||| (if hasW (gHe σ r) n1 then (1 : Int32) <<< (nI r &&& 31) else 0)) (fin := fun a => some (0, a, x_misused)) (fun n a => ?_) (fun n a r hr => ?_) (gR π) 0 FU 0 (by omega) (FU_gt (by omega))
  · show f_X9_hearers_12 s_heard p_readers n1 (n + 1) a (nI (gR π)) x_misused = _
    rw [f_X9_hearers_12, hp, if_pos (Int32.le_refl _)]
  · show f_X9_hearers_12 s_heard p_readers n1 (n + 1) a (nI r) x_misused = f_X9_hearers_12 s_heard p_readers n1 n _ (nI (r + 1)) x_misused
    have hhe := hS.2.2.2.2.2.2.2.2.1 r hr
    rw [f_X9_hearers_12, hp]
    simp (disch := omega) only [nI_leJ]
    rw [if_neg (by omega), ixb_nI (by omega) (by omega), if_pos rfl, nI_cl (by omega), hhe, c_has, b1_s, nI_1]
    by_cases h : hasW (gHe σ r) n1
    · rw [if_pos h, if_pos h, if_neg (by decide)]
    · rw [if_neg h, if_neg h, if_pos rfl, or0]
theorem m_hearers27 {n1 : Int32} (hS : RM π σ m_now) (hp : m_readers = nI (gR π)) (ok : OkP π) : f_X10_hearers_27 m_readers m_now n1 FU 0 0 m_thrown m_refused = some (orI (fun r => if hasW (gHe σ r) n1 then (1 : Int32) <<< (nI r &&& 31) else 0) (gR π), m_thrown, m_refused) := by
  have h5 := ok.2.2.1
  refine loopF (F := fun n a x => f_X10_hearers_27 m_readers m_now n1 n a x m_thrown m_refused) (B := gR π) (step := fun r a => a ||| (if hasW (gHe σ r) n1 then (1 : Int32) <<< (nI r &&& 31) else 0)) (fin := fun a => some (a, m_thrown, m_refused)) (fun n a => ?_) (fun n a r hr => ?_) (gR π) 0 FU 0 (by omega) (FU_gt (by omega))
  · show f_X10_hearers_27 m_readers m_now n1 (n + 1) a (nI (gR π)) m_thrown m_refused = _
    rw [f_X10_hearers_27, hp, if_pos (Int32.le_refl _)]
  · show f_X10_hearers_27 m_readers m_now n1 (n + 1) a (nI r) m_thrown m_refused = f_X10_hearers_27 m_readers m_now n1 n _ (nI (r + 1)) m_thrown m_refused
    have hhe := hS.2.2.2.2.2.2.2.2.1 r hr
    rw [f_X10_hearers_27, hp]
    simp (disch := omega) only [nI_leJ]
    rw [if_neg (by omega), show (95 : Int32) + nI r = nI (95 + r) from nI_add 95 r, ixb_nI (by omega) (by omega), if_pos rfl, nI_cl (by omega), hhe, nI_1]
    by_cases h : hasW (gHe σ r) n1
    · have h' : (gHe σ r >>> (n1 &&& 31)) &&& 1 = 1 := h
      rw [if_pos h, h']
    · have h' : (gHe σ r >>> (n1 &&& 31)) &&& 1 = 0 := by
        have h9 : ¬ (gHe σ r >>> (n1 &&& 31)) &&& 1 = 1 := h
        rw [and_one] at h9 ⊢
        cases e : bt (gHe σ r >>> (n1 &&& 31)) 0
        · rfl
        · rw [e] at h9; exact absurd rfl h9
      rw [if_neg h, h', zsh r (by omega)]
theorem k_hearers (hS : RS π σ (s_year, s_wet, s_lost, s_eaten, s_tied, s_ripeMany, s_gone, s_place, s_heard, s_many, s_lying, s_ripe)) (hM : RM π σ m_now) (hP : RPc π (p_beds, p_letters, p_readers, p_far, p_drain, p_length, p_words, p_home)) (hQ : RPm π m_beds m_letters m_readers m_bed m_letter m_reader) (ok : OkP π) (hc : RC x_missing x_misused m_refused) (n1 : Int32) :
    ∃ ex r mu rf, f_X9_hearers x_misused s_heard p_readers n1 = some (ex, r, mu) ∧ f_X10_hearers m_thrown m_refused m_readers m_now n1 = some (r, if ex = 0 then 0 else 1, rf) ∧ (ex = 0 ∨ ex = 2) ∧ RC x_missing mu rf := by
  unfold f_X9_hearers f_X10_hearers
  rw [c_range, m_within]
  by_cases h : 0 ≤ n1 ∧ n1 ≤ 15
  · refine ⟨0, orI (fun r => if hasW (gHe σ r) n1 then (1 : Int32) <<< (nI r &&& 31) else 0) (gR π), x_misused, m_refused, ?_, ?_, Or.inl rfl, hc⟩
    · rw [if_pos h, b2_s, if_pos rfl, c_hearers12 hS hP.2.2.1 ok]
    · rw [if_pos h, b1_s, m_may1, b3_s, if_neg (by decide), m_hearers27 hM hQ.2.2.1 ok]
      rfl
  · refine ⟨2, 0, x_misused + 1, upd m_refused 1 (m_refused 1 + 1), ?_, ?_, Or.inr rfl, rc_mu hc⟩
    · rw [if_neg h]; rfl
    · rw [if_neg h]; rfl
theorem k_news (hS : RS π σ (s_year, s_wet, s_lost, s_eaten, s_tied, s_ripeMany, s_gone, s_place, s_heard, s_many, s_lying, s_ripe)) (hM : RM π σ m_now) (hP : RPc π (p_beds, p_letters, p_readers, p_far, p_drain, p_length, p_words, p_home)) (hQ : RPm π m_beds m_letters m_readers m_bed m_letter m_reader) (ok : OkP π) (os : OkS π σ) (hc : RC x_missing x_misused m_refused) (n1 n2 : Int32) :
    ∃ ex r mi mu rf s2, f_X9_news x_missing x_misused s_gone s_place s_heard p_letters p_readers p_far p_length p_words n1 n2 = some (ex, r, mi, mu) ∧ f_X10_news m_thrown m_refused m_bed m_letter m_letters m_readers m_now m_s n1 n2 = some (r, nI ex, rf, s2) ∧ (ex = 0 ∨ ex = 1 ∨ ex = 2) ∧ RC mi mu rf := by
  have h6 := ok.2.2.1
  have e0 := hQ.2.2.1
  subst e0
  unfold f_X9_news f_X10_news
  rw [c_one, hP.2.2.1, m_isR _ (by omega)]
  by_cases h : 0 ≤ n1 ∧ n1 < nI (gR π)
  case neg =>
    refine ⟨1, 0, x_missing + 1, x_misused, upd m_refused 0 (m_refused 0 + 1), m_s, ?_, ?_, Or.inr (Or.inl rfl), rc_mi hc⟩
    · rw [if_neg h]; rfl
    · rw [if_neg h]; rfl
  rw [if_pos h, if_pos h, b2_s, if_pos rfl, c_range, b3_s, if_neg (show ¬ (1 : Int32) = 0 by decide), m_within]
  by_cases h2 : 1 ≤ n2 ∧ n2 ≤ 30
  case neg =>
    refine ⟨2, 0, x_missing, x_misused + 1, upd m_refused 1 (m_refused 1 + 1), m_s, ?_, ?_, Or.inr (Or.inr rfl), rc_mu hc⟩
    · rw [if_neg h2]; rfl
    · rw [if_neg h2]; rfl
  obtain ⟨r, hr, rfl⟩ := inL (B := gR π) (by omega) h.1 h.2
  obtain ⟨N, hN, rfl⟩ := inN (B := 30) (by decide) (Int32.le_trans (by decide) h2.1) h2.2
  obtain ⟨m2, e2, hT⟩ := m_take (m_s := m_s) ok os hM
  have hhe := hS.2.2.2.2.2.2.2.2.1 r hr
  refine ⟨0, if gFa π (gPl σ r) ≤ N then nexts π σ &&& (gHe σ r ^^^ -1) else 0, x_missing, x_misused, m_refused, m2, ?_, ?_, Or.inl rfl, hc⟩
  · rw [if_pos h2, b2_s, if_pos rfl, c_toldBy hS hP ok os hr (by omega), b1_s, ixb_nI (by omega) (by omega), if_pos rfl, nI_cl (by omega), hhe]
    by_cases h3 : gFa π (gPl σ r) ≤ N
    · rw [if_pos h3, if_pos h3]
    · rw [if_neg h3, if_neg h3, z_and]
  · rw [if_pos h2, b1_s, m_may1, b3_s, if_neg (by decide), e2, b1_s, m_newsOf hT hQ ok os hr (by omega), b1_s]
    rfl
theorem c_full23 {T : Nat} (hS : RS π σ (s_year, s_wet, s_lost, s_eaten, s_tied, s_ripeMany, s_gone, s_place, s_heard, s_many, s_lying, s_ripe)) (hp : p_beds = nI (gB π)) (ok : OkP π) (os : OkS π σ) (hT : T < 1000) (n1 : Int32) : f_X9_full_23 s_many p_beds n1 FU (nI T) 0 0 x_misused = some (0, orI (fun b => if (gLy σ b).length = T then (1 : Int32) <<< (nI b &&& 31) else 0) (gB π), x_misused) := by
  have h6 := ok.1
  refine loopF (F := fun n a x => f_X9_full_23 s_many p_beds n1 n (nI T) a x x_misused) (B := gB π) (step := fun b a => a ||| (if (gLy σ b).length = T then (1 : Int32) <<< (nI b &&& 31) else 0)) (fin := fun a => some (0, a, x_misused)) (fun n a => ?_) (fun n a b hb => ?_) (gB π) 0 FU 0 (by omega) (FU_gt (by omega))
  · show f_X9_full_23 s_many p_beds n1 (n + 1) (nI T) a (nI (gB π)) x_misused = _
    rw [f_X9_full_23, hp, if_pos (Int32.le_refl _)]
  · show f_X9_full_23 s_many p_beds n1 (n + 1) (nI T) a (nI b) x_misused = f_X9_full_23 s_many p_beds n1 n (nI T) _ (nI (b + 1)) x_misused
    have hma := hS.2.2.2.2.2.2.2.2.2.1 b (by omega)
    have h13 := (os.2.2.2.2.1 b).1
    rw [f_X9_full_23, hp]
    simp (disch := omega) only [nI_leJ]
    rw [if_neg (by omega), ixb_nI (by omega) (by omega), if_pos rfl, nI_cl (by omega), hma, nI_1]
    simp (disch := omega) only [nI_eqI]
    by_cases h : (gLy σ b).length = T
    · rw [if_pos h, if_pos h]
    · rw [if_neg h, if_neg h, or0]
theorem m_full26 (hS : RM π σ m_now) (hp : m_beds = nI (gB π)) (ok : OkP π) (os : OkS π σ) {k : Nat} (hk : k = 0 ∨ k = 1) : f_X10_full_26 m_beds m_now (nI k) FU 0 0 m_thrown m_refused = some (orI (fun b => if (gLy σ b).length = (if k = 0 then 12 else 0) then (1 : Int32) <<< (nI b &&& 31) else 0) (gB π), m_thrown, m_refused) := by
  have h6 := ok.1
  refine loopF (F := fun n a x => f_X10_full_26 m_beds m_now (nI k) n a x m_thrown m_refused) (B := gB π) (step := fun b a => a ||| (if (gLy σ b).length = (if k = 0 then 12 else 0) then (1 : Int32) <<< (nI b &&& 31) else 0)) (fin := fun a => some (a, m_thrown, m_refused)) (fun n a => ?_) (fun n a b hb => ?_) (gB π) 0 FU 0 (by omega) (FU_gt (by omega))
  · show f_X10_full_26 m_beds m_now (nI k) (n + 1) a (nI (gB π)) m_thrown m_refused = _
    rw [f_X10_full_26, hp, if_pos (Int32.le_refl _)]
  · show f_X10_full_26 m_beds m_now (nI k) (n + 1) a (nI b) m_thrown m_refused = f_X10_full_26 m_beds m_now (nI k) n _ (nI (b + 1)) m_thrown m_refused
    have hma := hS.2.2.2.2.2.2.2.2.2.1 b (by omega)
    have h13 := (os.2.2.2.2.1 b).1
    rw [f_X10_full_26, hp]
    simp (disch := omega) only [nI_leJ]
    rw [if_neg (by omega), show (84 : Int32) + nI b = nI (84 + b) from nI_add 84 b, ixb_nI (by omega) (by omega), if_pos rfl, nI_cl (by omega), hma]
    unfold f_X10_full_54
    rw [nI_1]
    rcases hk with rfl | rfl
    · rw [if_pos (show nI 0 = 0 from rfl)]
      simp (disch := omega) only [show (12 : Int32) = nI 12 from rfl, nI_eqI, if_true]
      by_cases h : (gLy σ b).length = 12
      · rw [if_pos h, if_pos h]
      · rw [if_neg h, if_neg h]
    · rw [if_neg (show ¬ nI 1 = 0 by decide)]
      simp (disch := omega) only [show (0 : Int32) = nI 0 from rfl, nI_eqI, if_false, show ¬ 1 = 0 by decide]
      by_cases h : (gLy σ b).length = 0
      · rw [if_pos h, if_pos h]
      · rw [if_neg h, if_neg h]
theorem k_full (hS : RS π σ (s_year, s_wet, s_lost, s_eaten, s_tied, s_ripeMany, s_gone, s_place, s_heard, s_many, s_lying, s_ripe)) (hM : RM π σ m_now) (hP : RPc π (p_beds, p_letters, p_readers, p_far, p_drain, p_length, p_words, p_home)) (hQ : RPm π m_beds m_letters m_readers m_bed m_letter m_reader) (ok : OkP π) (os : OkS π σ) (hc : RC x_missing x_misused m_refused) (n1 : Int32) :
    ∃ ex r mu rf, f_X9_full x_misused s_many p_beds n1 = some (ex, r, mu) ∧ f_X10_full m_thrown m_refused m_beds m_now n1 = some (r, if ex = 0 then 0 else 1, rf) ∧ (ex = 0 ∨ ex = 2) ∧ RC x_missing mu rf := by
  unfold f_X9_full f_X10_full
  rw [c_range, m_within]
  by_cases h : 0 ≤ n1 ∧ n1 ≤ 1
  · obtain ⟨k, hk, rfl⟩ := inN (B := 1) (by decide) h.1 h.2
    have hk2 : k = 0 ∨ k = 1 := by omega
    refine ⟨0, orI (fun b => if (gLy σ b).length = (if k = 0 then 12 else 0) then (1 : Int32) <<< (nI b &&& 31) else 0) (gB π), x_misused, m_refused, ?_, ?_, Or.inl rfl, hc⟩
    · rw [if_pos h, b2_s, if_pos rfl]
      rcases hk2 with rfl | rfl
      · rw [if_pos rfl]; exact c_full23 (T := 12) hS hP.1 ok os (by decide) _
      · rw [if_neg (by decide)]; exact c_full23 (T := 0) hS hP.1 ok os (by decide) _
    · rw [if_pos h, b1_s, m_may1, b3_s, if_neg (by decide), m_full26 hM hQ.1 ok os hk2]
      rfl
  · refine ⟨2, 0, x_misused + 1, upd m_refused 1 (m_refused 1 + 1), ?_, ?_, Or.inr rfl, rc_mu hc⟩
    · rw [if_neg h]; rfl
    · rw [if_neg h]; rfl
theorem k_unread (hS : RS π σ (s_year, s_wet, s_lost, s_eaten, s_tied, s_ripeMany, s_gone, s_place, s_heard, s_many, s_lying, s_ripe)) (hM : RM π σ m_now) (hP : RPc π (p_beds, p_letters, p_readers, p_far, p_drain, p_length, p_words, p_home)) (hQ : RPm π m_beds m_letters m_readers m_bed m_letter m_reader) (ok : OkP π) (os : OkS π σ) (hc : RC x_missing x_misused m_refused) (n1 : Int32) :
    ∃ ex r mi rf s2, f_X9_unread x_missing s_place s_heard s_many s_lying p_readers n1 = some (ex, r, mi) ∧ f_X10_unread m_thrown m_refused m_readers m_now m_s n1 = some (r, if ex = 0 then 0 else 1, rf, s2) ∧ (ex = 0 ∨ ex = 1) ∧ RC mi x_misused rf := by
  have h5 := ok.2.2.1
  have hB := ok.1
  unfold f_X9_unread f_X10_unread
  rw [c_one, hP.2.2.1, hQ.2.2.1, m_isR _ (by omega)]
  by_cases h : 0 ≤ n1 ∧ n1 < nI (gR π)
  · obtain ⟨r, hr, rfl⟩ := inL (B := gR π) (by omega) h.1 h.2
    obtain ⟨m2, e2, hT⟩ := m_take (m_s := m_s) ok os hM
    have hhe := hS.2.2.2.2.2.2.2.2.1 r hr
    have hpl := hS.2.2.2.2.2.2.2.1 r hr
    have hmh := hT.2.2.2.2.2.2.2.2.1 r hr
    have hmp := hT.2.2.2.2.2.2.2.1 r hr
    have hpb := os.2.2.2.1 r hr
    refine ⟨0, bitsOf (gLy σ (gPl σ r)) &&& (gHe σ r ^^^ -1), x_missing, m_refused, m2, ?_, ?_, Or.inl rfl, hc⟩
    · rw [if_pos h, b2_s, if_pos rfl, ixb_nI (by omega) (by omega), if_pos rfl, nI_cl (by omega), hpl, c_wordsIn hS os (by omega), b1_s, if_pos rfl, hhe]
    · rw [if_pos h, b3_s, if_neg (by decide), e2, b1_s, show (90 : Int32) + nI r = nI (90 + r) from nI_add 90 r, ixb_nI (by omega) (by omega), if_pos rfl, nI_cl (by omega), hmp, m_wordsIn hT os (by omega), b1_s, show (95 : Int32) + nI r = nI (95 + r) from nI_add 95 r, ixb_nI (by omega) (by omega), if_pos rfl, nI_cl (by omega), hmh]
      rfl
  · refine ⟨1, 0, x_missing + 1, upd m_refused 0 (m_refused 0 + 1), m_s, ?_, ?_, Or.inr rfl, rc_mi hc⟩
    · rw [if_neg h]; rfl
    · rw [if_neg h]; rfl
def drainsS (π : Pg) (σ : Sg) (b : Nat) : Int32 := orI (fun l => if gDr π l = b then (if gLeft π σ l = 0 then 0 else (1 : Int32) <<< (nI l &&& 31)) else 0) (gL π)
theorem k_drains (hS : RS π σ (s_year, s_wet, s_lost, s_eaten, s_tied, s_ripeMany, s_gone, s_place, s_heard, s_many, s_lying, s_ripe)) (hM : RM π σ m_now) (hP : RPc π (p_beds, p_letters, p_readers, p_far, p_drain, p_length, p_words, p_home)) (hQ : RPm π m_beds m_letters m_readers m_bed m_letter m_reader) (ok : OkP π) (os : OkS π σ) (hc : RC x_missing x_misused m_refused) (n1 : Int32) :
    ∃ ex r mi rf s2, f_X9_drains x_missing s_gone p_beds p_letters p_drain p_length n1 = some (ex, r, mi) ∧ f_X10_drains m_thrown m_refused m_letter m_beds m_letters m_now m_s n1 = some (r, if ex = 0 then 0 else 1, rf, s2) ∧ (ex = 0 ∨ ex = 1) ∧ RC mi x_misused rf := by
  have h6 := ok.1
  have hL := ok.2.1
  have e0 := hQ.1
  subst e0
  have e1 := hP.1
  subst e1
  unfold f_X9_drains f_X10_drains
  rw [c_one, m_isB _ (by omega)]
  by_cases h : 0 ≤ n1 ∧ n1 < nI (gB π)
  · obtain ⟨b, hb, rfl⟩ := inL (B := gB π) (by omega) h.1 h.2
    obtain ⟨m2, e2, hT⟩ := m_take (m_s := m_s) ok os hM
    have e3 : f_X9_drains_16 s_gone (nI (gB π)) p_letters p_drain p_length (nI b) FU 0 0 x_missing = some (0, drainsS π σ b, x_missing) := by
      refine loopF (F := fun n a x => f_X9_drains_16 s_gone (nI (gB π)) p_letters p_drain p_length (nI b) n a x x_missing) (B := gL π) (step := fun l a => a ||| (if gDr π l = b then (if gLeft π σ l = 0 then 0 else (1 : Int32) <<< (nI l &&& 31)) else 0)) (fin := fun a => some (0, a, x_missing)) (fun n a => ?_) (fun n a l hl => ?_) (gL π) 0 FU 0 (by omega) (FU_gt (by omega))
      · show f_X9_drains_16 s_gone (nI (gB π)) p_letters p_drain p_length (nI b) (n + 1) a (nI (gL π)) x_missing = _
        rw [f_X9_drains_16, hP.2.1, if_pos (Int32.le_refl _)]
      · show f_X9_drains_16 s_gone (nI (gB π)) p_letters p_drain p_length (nI b) (n + 1) a (nI l) x_missing = f_X9_drains_16 s_gone (nI (gB π)) p_letters p_drain p_length (nI b) n _ (nI (l + 1)) x_missing
        have hdr := (hP.2.2.2.2.1 l hl).1
        have hd9 := (ok.2.2.2.2.1 l hl).1
        have h8 := (ok.2.2.2.2.1 l hl).2.2.1
        have hlf : gLeft π σ l ≤ 8 := by unfold gLeft; omega
        rw [f_X9_drains_16, hP.2.1]
        simp (disch := omega) only [nI_leJ]
        rw [if_neg (by omega), ixb_nI (by omega) (by omega), if_pos rfl, nI_cl (by omega), hdr, c_leftOf hS hP ok os hl, b1_s, nI_1]
        simp (disch := omega) only [nI_eqI, show (0 : Int32) = nI 0 from rfl, nI_leJ]
        by_cases h2 : gDr π l = b
        · rw [if_pos h2, if_pos h2]
          by_cases h3 : gLeft π σ l = 0
          · rw [if_pos (by omega), if_pos h3]; rw [show nI 0 = (0 : Int32) from rfl, or0]
          · rw [if_neg (by omega), if_neg h3]
        · rw [if_neg h2, if_neg h2]; rw [show nI 0 = (0 : Int32) from rfl, or0]
    have e4 : f_X10_drains_24 m_letter (nI (gB π)) m_letters m_now (nI b) FU 0 0 0 m_refused m2 = some (drainsS π σ b, 0, m_refused, m2) := by
      refine loopF (F := fun n a x => f_X10_drains_24 m_letter (nI (gB π)) m_letters m_now (nI b) n a x 0 m_refused m2) (B := gL π) (step := fun l a => a ||| (if gDr π l = b then (if gLeft π σ l = 0 then 0 else (1 : Int32) <<< (nI l &&& 31)) else 0)) (fin := fun a => some (a, 0, m_refused, m2)) (fun n a => ?_) (fun n a l hl => ?_) (gL π) 0 FU 0 (by omega) (FU_gt (by omega))
      · show f_X10_drains_24 m_letter (nI (gB π)) m_letters m_now (nI b) (n + 1) a (nI (gL π)) 0 m_refused m2 = _
        rw [f_X10_drains_24, hQ.2.1, if_pos (Int32.le_refl _)]
      · show f_X10_drains_24 m_letter (nI (gB π)) m_letters m_now (nI b) (n + 1) a (nI l) 0 m_refused m2 = f_X10_drains_24 m_letter (nI (gB π)) m_letters m_now (nI b) n _ (nI (l + 1)) 0 m_refused m2
        have hdr := (hQ.2.2.2.2.1 l hl).1
        have hd9 := (ok.2.2.2.2.1 l hl).1
        have h8 := (ok.2.2.2.2.1 l hl).2.2.1
        have hlf : gLeft π σ l ≤ 8 := by unfold gLeft; omega
        rw [f_X10_drains_24, hQ.2.1]
        simp (disch := omega) only [nI_leJ]
        rw [if_neg (by omega), show (10 : Int32) * nI l = nI (10 * l) from nI_mul 10 l, ixb_nI (by omega) (by omega), if_pos rfl, nI_cl (by omega), hdr, m_leftOf hT hQ ok os hl, b1_s, nI_1]
        simp (disch := omega) only [nI_eqI, show (0 : Int32) = nI 0 from rfl, nI_leJ]
        by_cases h2 : gDr π l = b
        · rw [if_pos h2, if_pos h2]
          by_cases h3 : gLeft π σ l = 0
          · rw [if_pos (by omega), if_pos h3]
          · rw [if_neg (by omega), if_neg h3]
        · rw [if_neg h2, if_neg h2]
    refine ⟨0, drainsS π σ b, x_missing, m_refused, m2, ?_, ?_, Or.inl rfl, hc⟩
    · rw [if_pos h, b2_s, if_pos rfl, e3]
    · rw [if_pos h, b3_s, if_neg (by decide), e2, b1_s, e4]
      rfl
  · refine ⟨1, 0, x_missing + 1, upd m_refused 0 (m_refused 0 + 1), m_s, ?_, ?_, Or.inr rfl, rc_mi hc⟩
    · rw [if_neg h]; rfl
    · rw [if_neg h]; rfl
def comingS (π : Pg) (σ : Sg) (b k : Nat) : Int32 := sumI (fun l => if gDr π l = b then (if tdB (gTi σ) l = 1 - nI k then nI (gLeft π σ l) else 0) else 0) (gL π)
theorem add0 (n : Int32) : n + 0 = n := Int32.add_zero n
theorem k_coming (hS : RS π σ (s_year, s_wet, s_lost, s_eaten, s_tied, s_ripeMany, s_gone, s_place, s_heard, s_many, s_lying, s_ripe)) (hM : RM π σ m_now) (hP : RPc π (p_beds, p_letters, p_readers, p_far, p_drain, p_length, p_words, p_home)) (hQ : RPm π m_beds m_letters m_readers m_bed m_letter m_reader) (ok : OkP π) (os : OkS π σ) (hc : RC x_missing x_misused m_refused) (n1 n2 : Int32) :
    ∃ ex r mi mu rf s2, f_X9_coming x_missing x_misused s_tied s_gone p_beds p_letters p_drain p_length n1 n2 = some (ex, r, mi, mu) ∧ f_X10_coming m_thrown m_refused m_letter m_beds m_letters m_now m_s n1 n2 = some (r, nI ex, rf, s2) ∧ (ex = 0 ∨ ex = 1 ∨ ex = 2) ∧ RC mi mu rf := by
  have h6 := ok.1
  have hL := ok.2.1
  have e0 := hQ.1
  subst e0
  have e1 := hP.1
  subst e1
  unfold f_X9_coming f_X10_coming
  rw [c_one, m_isB _ (by omega)]
  by_cases h : 0 ≤ n1 ∧ n1 < nI (gB π)
  case neg =>
    refine ⟨1, 0, x_missing + 1, x_misused, upd m_refused 0 (m_refused 0 + 1), m_s, ?_, ?_, Or.inr (Or.inl rfl), rc_mi hc⟩
    · rw [if_neg h]; rfl
    · rw [if_neg h]; rfl
  rw [if_pos h, if_pos h, b2_s, if_pos rfl, c_range, b3_s, if_neg (show ¬ (1 : Int32) = 0 by decide), m_within]
  by_cases h2 : 0 ≤ n2 ∧ n2 ≤ 1
  case neg =>
    refine ⟨2, 0, x_missing, x_misused + 1, upd m_refused 1 (m_refused 1 + 1), m_s, ?_, ?_, Or.inr (Or.inr rfl), rc_mu hc⟩
    · rw [if_neg h2]; rfl
    · rw [if_neg h2]; rfl
  obtain ⟨b, hb, rfl⟩ := inL (B := gB π) (by omega) h.1 h.2
  obtain ⟨k, hk, rfl⟩ := inN (B := 1) (by decide) h2.1 h2.2
  have hk2 : k = 0 ∨ k = 1 := by omega
  obtain ⟨m2, e2, hT⟩ := m_take (m_s := m_s) ok os hM
  have e3 : f_X9_coming_24 s_tied s_gone (nI (gB π)) p_letters p_drain p_length (nI b) (nI k) FU 0 0 x_missing x_misused = some (0, comingS π σ b k, x_missing, x_misused) := by
    refine loopF (F := fun n a x => f_X9_coming_24 s_tied s_gone (nI (gB π)) p_letters p_drain p_length (nI b) (nI k) n a x x_missing x_misused) (B := gL π) (step := fun l a => a + (if gDr π l = b then (if tdB (gTi σ) l = 1 - nI k then nI (gLeft π σ l) else 0) else 0)) (fin := fun a => some (0, a, x_missing, x_misused)) (fun n a => ?_) (fun n a l hl => ?_) (gL π) 0 FU 0 (by omega) (FU_gt (by omega))
    · show f_X9_coming_24 s_tied s_gone (nI (gB π)) p_letters p_drain p_length (nI b) (nI k) (n + 1) a (nI (gL π)) x_missing x_misused = _
      rw [f_X9_coming_24, hP.2.1, if_pos (Int32.le_refl _)]
    · show f_X9_coming_24 s_tied s_gone (nI (gB π)) p_letters p_drain p_length (nI b) (nI k) (n + 1) a (nI l) x_missing x_misused = f_X9_coming_24 s_tied s_gone (nI (gB π)) p_letters p_drain p_length (nI b) (nI k) n _ (nI (l + 1)) x_missing x_misused
      have hdr := (hP.2.2.2.2.1 l hl).1
      have hd9 := (ok.2.2.2.2.1 l hl).1
      rw [f_X9_coming_24, hP.2.1]
      simp (disch := omega) only [nI_leJ]
      rw [if_neg (by omega), ixb_nI (by omega) (by omega), if_pos rfl, nI_cl (by omega), hdr, c_isTied hS hl, b1_s]
      unfold f_X9_coming_68
      rw [c_leftOf hS hP ok os hl, b1_s, nI_1]
      simp (disch := omega) only [nI_eqI]
      by_cases h4 : gDr π l = b
      · rw [if_pos h4, if_pos h4]
        rcases hk2 with rfl | rfl
        · rw [if_pos (show nI 0 = 0 from rfl), show (1 : Int32) - nI 0 = 1 by decide]
          by_cases h5 : tdB (gTi σ) l = 1
          · rw [if_pos h5, if_pos h5]
          · rw [if_neg h5, if_neg h5, add0]
        · rw [if_neg (by decide), show (1 : Int32) - nI 1 = 0 by decide]
          by_cases h5 : tdB (gTi σ) l = 0
          · rw [if_pos h5, if_pos h5]
          · rw [if_neg h5, if_neg h5, add0]
      · rw [if_neg h4, if_neg h4, add0]
  have e4 : f_X10_coming_40 m_letter (nI (gB π)) m_letters m_now (nI b) (nI k) FU 0 0 0 m_refused m2 = some (comingS π σ b k, 0, m_refused, m2) := by
    refine loopF (F := fun n a x => f_X10_coming_40 m_letter (nI (gB π)) m_letters m_now (nI b) (nI k) n a x 0 m_refused m2) (B := gL π) (step := fun l a => a + (if gDr π l = b then (if tdB (gTi σ) l = 1 - nI k then nI (gLeft π σ l) else 0) else 0)) (fin := fun a => some (a, 0, m_refused, m2)) (fun n a => ?_) (fun n a l hl => ?_) (gL π) 0 FU 0 (by omega) (FU_gt (by omega))
    · show f_X10_coming_40 m_letter (nI (gB π)) m_letters m_now (nI b) (nI k) (n + 1) a (nI (gL π)) 0 m_refused m2 = _
      rw [f_X10_coming_40, hQ.2.1, if_pos (Int32.le_refl _)]
    · show f_X10_coming_40 m_letter (nI (gB π)) m_letters m_now (nI b) (nI k) (n + 1) a (nI l) 0 m_refused m2 = f_X10_coming_40 m_letter (nI (gB π)) m_letters m_now (nI b) (nI k) n _ (nI (l + 1)) 0 m_refused m2
      have hdr := (hQ.2.2.2.2.1 l hl).1
      have hd9 := (ok.2.2.2.2.1 l hl).1
      have hti := hT.2.2.2.2.1 l hl
      rw [f_X10_coming_40, hQ.2.1]
      simp (disch := omega) only [nI_leJ]
      rw [if_neg (by omega), show (10 : Int32) * nI l = nI (10 * l) from nI_mul 10 l, ixb_nI (by omega) (by omega), if_pos rfl, nI_cl (by omega), hdr, show (6 : Int32) + nI l = nI (6 + l) from nI_add 6 l, ixb_nI (by omega) (by omega), if_pos rfl, nI_cl (by omega), hti, m_leftOf hT hQ ok os hl, b1_s, nI_1]
      simp (disch := omega) only [nI_eqI]
      by_cases h4 : gDr π l = b
      · rw [if_pos h4, if_pos h4]
        by_cases h5 : tdB (gTi σ) l = nI 1 - nI k
        · have h5' : tdB (gTi σ) l = 1 - nI k := h5
          rw [if_pos h5', if_pos h5']
        · have h5' : ¬ tdB (gTi σ) l = 1 - nI k := h5
          rw [if_neg h5', if_neg h5']
      · rw [if_neg h4, if_neg h4]
  refine ⟨0, comingS π σ b k, x_missing, x_misused, m_refused, m2, ?_, ?_, Or.inl rfl, hc⟩
  · rw [if_pos h2, b2_s, if_pos rfl, e3]
  · rw [if_pos h2, b1_s, m_may1, b3_s, if_neg (by decide), e2, b1_s, e4]
    rfl
end KF
