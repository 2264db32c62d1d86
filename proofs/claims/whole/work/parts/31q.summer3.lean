/-! ===== summer ===== -/
abbrev ZTt : Type := Int32 × Int32 × Int32 × Int32 × Int32 × Int32 × (Nat → Int32) × (Nat → Int32) × (Nat → Int32) × (Nat → Int32) × (Nat → Int32) × (Nat → Int32) × Int32 × (Nat → Int32) × (Nat → Int32)
def vSum (π : Pg) (τ : Sg) : Nat → Int32
  | 0 => sumI (fun l => nI (gLeft π τ l)) (gL π)
  | 1 => nI (gRp τ).length
  | 2 => sumI (fun b => nI (gLy τ b).length) 6
  | _ => orI (gHe τ) (gR π)
theorem m_isSummer (a b : Int32) : f_X10_isSummer a b = some (if (0 ≤ a ∧ a ≤ 16) ∧ 1 ≤ b ∧ b ≤ 48 then 1 else 0) := by
  unfold f_X10_isSummer
  by_cases h1 : a < 0
  · rw [if_pos h1, if_neg (fun h => absurd h1 (Int32.not_lt.mpr h.1.1))]
  · rw [if_neg h1]
    by_cases h2 : 16 < a
    · rw [if_pos h2, if_neg (fun h => absurd h2 (Int32.not_lt.mpr h.1.2))]
    · rw [if_neg h2]
      by_cases h3 : b < 1
      · rw [if_pos h3, if_neg (fun h => absurd h3 (Int32.not_lt.mpr h.2.1))]
      · rw [if_neg h3]
        by_cases h4 : 48 < b
        · rw [if_pos h4, if_neg (fun h => absurd h4 (Int32.not_lt.mpr h.2.2))]
        · rw [if_neg h4, if_pos ⟨⟨Int32.not_lt.mp h1, Int32.not_lt.mp h2⟩, Int32.not_lt.mp h3, Int32.not_lt.mp h4⟩]
section KP
variable {π : Pg} {σ : Sg} {s_year s_wet s_lost s_eaten s_tied s_ripeMany : Int32} {s_gone s_place s_heard s_many s_lying s_ripe : Nat → Int32}
variable {s2_year s2_wet s2_lost s2_eaten s2_tied s2_ripeMany : Int32} {s2_gone s2_place s2_heard s2_many s2_lying s2_ripe : Nat → Int32}
variable {p_beds p_letters p_readers : Int32} {p_far p_drain p_length p_words p_home : Nat → Int32}
variable {m_s m_now m_bed m_letter m_reader m_refused : Nat → Int32} {m_beds m_letters m_readers m_thrown x_missing x_misused u_drawn m_seedNow : Int32}
variable {c : List Tk} {l_code l_values l_stack : Nat → Int32} {l_length : Int32} {m_code m_ofCode m_stack m_facts : Nat → Int32} {m_codes : Int32}
theorem k_summer (hS : RS π σ (s_year, s_wet, s_lost, s_eaten, s_tied, s_ripeMany, s_gone, s_place, s_heard, s_many, s_lying, s_ripe)) (hM : RM π σ m_now) (hP : RPc π (p_beds, p_letters, p_readers, p_far, p_drain, p_length, p_words, p_home)) (hQ : RPm π m_beds m_letters m_readers m_bed m_letter m_reader) (ok : OkP π) (os : OkS π σ) (hy : gYr σ ≤ 400) (hR : RLc c l_code l_length) (hR2 : RLm c m_code m_ofCode m_codes) (okl : OkL c) (hc : RC x_missing x_misused m_refused) (n1 n2 n3 n4 : Int32) :
    ∃ ex r mu, ∃ T : ZTt, ∃ rf st2 fa2 s2 u2, f_X9_summer x_misused s_year s_wet s_lost s_eaten s_tied s_ripeMany s_gone s_place s_heard s_many s_lying s_ripe s2_year s2_wet s2_lost s2_eaten s2_tied s2_ripeMany s2_gone s2_place s2_heard s2_many s2_lying s2_ripe u_drawn p_beds p_letters p_readers p_far p_drain p_length p_words l_code l_values l_stack l_length n1 n2 n3 n4 = some (ex, r, mu, T) ∧ f_X10_summer m_thrown m_refused m_bed m_letter m_beds m_letters m_readers m_code m_ofCode m_stack m_codes m_facts m_now m_s m_seedNow n1 n2 n3 n4 = some (r, if ex = 0 then 0 else 1, rf, st2, fa2, s2, u2) ∧ (ex = 0 ∨ ex = 2) ∧ RC x_missing mu rf := by
  unfold f_X9_summer f_X10_summer
  rw [c_range, m_isSummer]
  by_cases h1 : 0 ≤ n2 ∧ n2 ≤ 16
  case neg =>
    refine ⟨2, 0, x_misused + 1, (s2_year, s2_wet, s2_lost, s2_eaten, s2_tied, s2_ripeMany, s2_gone, s2_place, s2_heard, s2_many, s2_lying, s2_ripe, u_drawn, l_values, l_stack), upd m_refused 1 (m_refused 1 + 1), m_stack, m_facts, m_s, m_seedNow, ?_, ?_, Or.inr rfl, rc_mu hc⟩
    · rw [if_neg h1]; rfl
    · rw [if_neg (fun h => h1 h.1)]; rfl
  rw [if_pos h1, b2_s, if_pos rfl, c_range]
  by_cases h2 : 1 ≤ n3 ∧ n3 ≤ 48
  case neg =>
    refine ⟨2, 0, x_misused + 1, (s2_year, s2_wet, s2_lost, s2_eaten, s2_tied, s2_ripeMany, s2_gone, s2_place, s2_heard, s2_many, s2_lying, s2_ripe, u_drawn, l_values, l_stack), upd m_refused 1 (m_refused 1 + 1), m_stack, m_facts, m_s, m_seedNow, ?_, ?_, Or.inr rfl, rc_mu hc⟩
    · rw [if_neg h2]; rfl
    · rw [if_neg (fun h => h2 h.2)]; rfl
  rw [if_pos h2, b2_s, if_pos rfl, c_range, if_pos (show (0 ≤ n2 ∧ n2 ≤ 16) ∧ 1 ≤ n3 ∧ n3 ≤ 48 from ⟨h1, h2⟩), b1_s, if_neg (show ¬ (1 : Int32) = 0 by decide), m_within]
  by_cases h3 : 0 ≤ n4 ∧ n4 ≤ 3
  case neg =>
    refine ⟨2, 0, x_misused + 1, (s2_year, s2_wet, s2_lost, s2_eaten, s2_tied, s2_ripeMany, s2_gone, s2_place, s2_heard, s2_many, s2_lying, s2_ripe, u_drawn, l_values, l_stack), upd m_refused 1 (m_refused 1 + 1), m_stack, m_facts, m_s, m_seedNow, ?_, ?_, Or.inr rfl, rc_mu hc⟩
    · rw [if_neg h3]; rfl
    · rw [if_neg h3]; rfl
  obtain ⟨N, hN, rfl⟩ := inN (B := 48) (by decide) (Int32.le_trans (by decide) h2.1) h2.2
  obtain ⟨k, hk, rfl⟩ := inN (B := 3) (by decide) h3.1 h3.2
  obtain ⟨m2, e2, hT⟩ := m_take (m_s := m_s) ok os hM
  obtain ⟨go, pl, he, ma, ly, ri, e3, hU⟩ := c_copy (t_year := s2_year) (t_wet := s2_wet) (t_lost := s2_lost) (t_eaten := s2_eaten) (t_tied := s2_tied) (t_ripeMany := s2_ripeMany) (t_gone := s2_gone) (t_place := s2_place) (t_heard := s2_heard) (t_many := s2_many) (t_lying := s2_lying) (t_ripe := s2_ripe) ok os hS
  obtain ⟨y4, w4, lo4, rm4, go4, pl4, he4, ma4, ly4, ri4, va4, st4, e4, q4, o4⟩ := c_pass9 (n1 := n1) (q := n2) (n3 := nI N) (N := N) rfl hN hP ok hR okl N 0 FU (n1, σ) _ _ _ _ _ _ _ _ _ _ l_values l_stack (by omega) (FU_gt (by omega)) os (by show gYr σ ≤ 400 + 0; omega) hU
  obtain ⟨st5, fa5, ms5, e5, q5⟩ := m_summer12 (n1 := n1) (q := n2) (n3 := nI N) (N := N) (m_now := m_now) rfl hN hQ ok hR2 okl N 0 FU (n1, σ) m_stack m_facts m2 (by omega) (FU_gt (by omega)) os (by show gYr σ ≤ 400 + 0; omega) hT
  have hcs : k = 0 ∨ k = 1 ∨ k = 2 ∨ k = 3 := by omega
  generalize itN (fun _ p => oSum π c n2 p) N 0 (n1, σ) = P at e4 q4 o4 e5 q5
  refine ⟨0, vSum π P.2 k, x_misused, (y4, w4, lo4, s_eaten, s_tied, rm4, go4, pl4, he4, ma4, ly4, ri4, P.1, va4, st4), m_refused, st5, fa5, ms5, P.1, ?_, ?_, Or.inl rfl, hc⟩
  · have e4' : f_X6_pass u_drawn s_year s_wet s_lost s_tied s_ripeMany go pl he ma ly ri p_beds p_letters p_readers p_far p_drain p_length p_words l_code l_values l_stack l_length n1 n2 (nI N) = _ := e4
    rw [if_pos h3, b2_s, if_pos rfl, e3, b12_s, e4', b13_s, c_leftOfAll q4 hP ok o4, b1_s, c_lyingInAll q4, b1_s, c_heardByAny q4 hP ok, b1_s]
    have r6 : rm4 = nI (gRp P.2).length := q4.2.2.2.2.2.1
    rcases hcs with rfl | rfl | rfl | rfl
    · rfl
    · rw [r6]; rfl
    · rfl
    · rfl
  · have e5' : f_X10_summerGoes m_bed m_letter m_beds m_letters m_readers m_code m_ofCode m_stack m_codes m_facts m_now m_s m_seedNow n1 n2 (nI N) = some (st5, fa5, ms5, P.1) := by
      unfold f_X10_summerGoes
      rw [e2, b1_s]
      exact e5
    rw [if_pos h3, b1_s, if_neg (by decide)]
    unfold f_X10_summer_29
    rw [m_may1, b3_s, if_neg (show ¬ (1 : Int32) = 0 by decide), e5', b4_s, m_leftAll q5 hQ ok o4, b1_s, m_sum84 q5, b1_s, m_heardAny q5 hQ.2.2.1 ok, b1_s, show (160 : Int32).toNatClampNeg = 160 from rfl, q5.2.2.2.2.2.1]
    rcases hcs with rfl | rfl | rfl | rfl <;> rfl
end KP
