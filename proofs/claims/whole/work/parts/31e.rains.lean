/-! ===== rains ===== -/
abbrev XTt : Type := Int32 × Int32 × Int32 × Int32 × Int32 × Int32 × (Nat → Int32) × (Nat → Int32) × (Nat → Int32) × (Nat → Int32) × (Nat → Int32) × (Nat → Int32) × (Nat → Int32) × (Nat → Int32)
abbrev hasW (v n : Int32) : Prop := (v >>> (n &&& 31)) &&& 1 = 1
/-- how many rains until the word lies there -/
def rainsS (π : Pg) (c : List Tk) (b N : Nat) (n2 : Int32) : Nat → Nat → Sg → Int32
  | 0, k, σ => if hasW (bitsOf (gLy σ b)) n2 then nI k else -1
  | d + 1, k, σ => if hasW (bitsOf (gLy σ b)) n2 then nI k else rainsS π c b N n2 d (k + 1) (oPour π c N σ)
section KD
variable {π : Pg} {σ : Sg} {s_year s_wet s_lost s_eaten s_tied s_ripeMany : Int32} {s_gone s_place s_heard s_many s_lying s_ripe : Nat → Int32}
variable {s2_year s2_wet s2_lost s2_eaten s2_tied s2_ripeMany : Int32} {s2_gone s2_place s2_heard s2_many s2_lying s2_ripe : Nat → Int32}
variable {p_beds p_letters p_readers : Int32} {p_far p_drain p_length p_words p_home : Nat → Int32}
variable {m_s m_now m_bed m_letter m_reader m_refused : Nat → Int32} {m_beds m_letters m_readers m_thrown x_missing x_misused : Int32}
variable {c : List Tk} {l_code l_values l_stack : Nat → Int32} {l_length : Int32} {m_code m_ofCode m_stack m_facts : Nat → Int32} {m_codes : Int32}
theorem c_has (v n : Int32) : f_X9_has v n = some (if hasW v n then 1 else 0) := by
  unfold f_X9_has
  by_cases h : (v >>> (n &&& 31)) &&& 1 = 1
  · rw [if_pos h, if_pos h]
  · rw [if_neg h, if_neg h]
theorem c_rains42 {n2 : Int32} {N b : Nat} (hP : RPc π (p_beds, p_letters, p_readers, p_far, p_drain, p_length, p_words, p_home)) (ok : OkP π) (hR : RLc c l_code l_length) (okl : OkL c) (hN : N < 1000) (hb : b < 6) : ∀ (d k n : Nat) (σ : Sg) (y w lo ea ti rm : Int32) (go pl he ma ly ri va st : Nat → Int32), k + d = 40 → d < n → OkS π σ → RS π σ (y, w, lo, ea, ti, rm, go, pl, he, ma, ly, ri) → ∃ T : XTt, f_X9_rains_42 s_year s_wet s_lost s_eaten s_tied s_ripeMany s_gone s_place s_heard s_many s_lying s_ripe p_beds p_letters p_far p_drain p_length p_words l_code l_length (nI b) n2 (nI N) n (nI k) x_missing x_misused y w lo ea ti rm go pl he ma ly ri va st = some (0, rainsS π c b N n2 d k σ, x_missing, x_misused, T) := by
  intro d
  induction d with
  | zero =>
    intro k n σ y w lo ea ti rm go pl he ma ly ri va st hk hn os hS
    obtain ⟨m, rfl⟩ : ∃ m, n = m + 1 := ⟨n - 1, by omega⟩
    obtain rfl : k = 40 := by omega
    refine ⟨(y, w, lo, ea, ti, rm, go, pl, he, ma, ly, ri, va, st), ?_⟩
    rw [f_X9_rains_42, show (40 : Int32) = nI 40 from rfl, if_pos (Int32.le_refl _), c_wordsIn hS os hb, b1_s, c_has, b1_s]
    unfold rainsS
    by_cases h : hasW (bitsOf (gLy σ b)) n2
    · rw [if_pos h, if_pos h]; rfl
    · rw [if_neg h, if_neg h]; rfl
  | succ d ih =>
    intro k n σ y w lo ea ti rm go pl he ma ly ri va st hk hn os hS
    obtain ⟨m, rfl⟩ : ∃ m, n = m + 1 := ⟨n - 1, by omega⟩
    rw [f_X9_rains_42]
    simp (disch := omega) only [show (40 : Int32) = nI 40 from rfl, nI_leJ]
    rw [if_neg (by omega), c_wordsIn hS os hb, b1_s, c_has, b1_s]
    unfold rainsS
    by_cases h : hasW (bitsOf (gLy σ b)) n2
    · rw [if_pos h, if_pos h]
      exact ⟨(y, w, lo, ea, ti, rm, go, pl, he, ma, ly, ri, va, st), rfl⟩
    · rw [if_neg h, if_neg h, if_pos rfl]
      obtain ⟨w2, lo2, go2, ma2, ly2, va2, st2, e2, q2, o2⟩ := c_pour (l_values := va) (l_stack := st) hS hP ok os hR okl hN
      rw [e2, b7_s, nI_1]
      exact ih (k + 1) m _ _ _ _ _ _ _ _ _ _ _ _ _ _ _ (by omega) (by omega) o2 q2
theorem m_rains57 {n2 : Int32} {N b : Nat} (hP : RPm π m_beds m_letters m_readers m_bed m_letter m_reader) (ok : OkP π) (hR : RLm c m_code m_ofCode m_codes) (okl : OkL c) (hN : N < 1000) (hb : b < 6) : ∀ (d k n : Nat) (σ : Sg) (st fa ms : Nat → Int32), k + d = 40 → d + 1 < n → OkS π σ → RM π σ ms → ∃ st2 fa2 ms2, f_X10_rains_57 m_bed m_letter m_beds m_letters m_code m_ofCode m_codes m_now (nI b) n2 (nI N) n (nI k) m_thrown m_refused st fa ms = some (rainsS π c b N n2 d k σ, m_thrown, m_refused, st2, fa2, ms2) := by
  intro d
  induction d with
  | zero =>
    intro k n σ st fa ms hk hn os hS
    obtain ⟨m, rfl⟩ : ∃ m, n = m + 1 + 1 := ⟨n - 2, by omega⟩
    obtain rfl : k = 40 := by omega
    rw [f_X10_rains_57, if_neg (by decide), m_wordsIn hS os hb, b1_s]
    unfold rainsS
    by_cases h : hasW (bitsOf (gLy σ b)) n2
    · rw [if_pos h, if_pos h]
      exact ⟨st, fa, ms, rfl⟩
    · rw [if_neg h, if_neg h]
      obtain ⟨st2, fa2, m2, e2, q2, o2⟩ := m_pours (m_stack := st) (m_facts := fa) hS hP ok os hR okl hN
      rw [e2, b3_s, f_X10_rains_57, if_pos (by decide)]
      exact ⟨st2, fa2, m2, rfl⟩
  | succ d ih =>
    intro k n σ st fa ms hk hn os hS
    obtain ⟨m, rfl⟩ : ∃ m, n = m + 1 := ⟨n - 1, by omega⟩
    rw [f_X10_rains_57]
    simp (disch := omega) only [show (40 : Int32) = nI 40 from rfl, nI_ltJ]
    rw [if_neg (by omega), m_wordsIn hS os hb, b1_s]
    unfold rainsS
    by_cases h : hasW (bitsOf (gLy σ b)) n2
    · rw [if_pos h, if_pos h]
      exact ⟨st, fa, ms, rfl⟩
    · rw [if_neg h, if_neg h]
      obtain ⟨st2, fa2, m2, e2, q2, o2⟩ := m_pours (m_stack := st) (m_facts := fa) hS hP ok os hR okl hN
      rw [e2, b3_s, nI_1]
      exact ih (k + 1) m _ _ _ _ (by omega) (by omega) o2 q2
theorem k_rains (hS : RS π σ (s_year, s_wet, s_lost, s_eaten, s_tied, s_ripeMany, s_gone, s_place, s_heard, s_many, s_lying, s_ripe)) (hM : RM π σ m_now) (hP : RPc π (p_beds, p_letters, p_readers, p_far, p_drain, p_length, p_words, p_home)) (hQ : RPm π m_beds m_letters m_readers m_bed m_letter m_reader) (ok : OkP π) (os : OkS π σ) (hR : RLc c l_code l_length) (hR2 : RLm c m_code m_ofCode m_codes) (okl : OkL c) (hc : RC x_missing x_misused m_refused) (n1 n2 n3 : Int32) :
    ∃ ex r mi mu, ∃ T : XTt, ∃ rf s2 st2 fa, f_X9_rains x_missing x_misused s_year s_wet s_lost s_eaten s_tied s_ripeMany s_gone s_place s_heard s_many s_lying s_ripe s2_year s2_wet s2_lost s2_eaten s2_tied s2_ripeMany s2_gone s2_place s2_heard s2_many s2_lying s2_ripe p_beds p_letters p_far p_drain p_length p_words l_code l_values l_stack l_length n1 n2 n3 = some (ex, r, mi, mu, T) ∧ f_X10_rains m_thrown m_refused m_bed m_letter m_beds m_letters m_code m_ofCode m_stack m_codes m_facts m_now m_s n1 n2 n3 = some (r, nI ex, rf, st2, fa, s2) ∧ (ex = 0 ∨ ex = 1 ∨ ex = 2) ∧ RC mi mu rf := by
  have h6 := ok.1
  have e0 := hQ.1
  subst e0
  have e1 := hP.1
  subst e1
  unfold f_X9_rains f_X10_rains
  rw [c_one, m_isB _ (by omega)]
  by_cases h : 0 ≤ n1 ∧ n1 < nI (gB π)
  case neg =>
    refine ⟨1, 0, x_missing + 1, x_misused, (s2_year, s2_wet, s2_lost, s2_eaten, s2_tied, s2_ripeMany, s2_gone, s2_place, s2_heard, s2_many, s2_lying, s2_ripe, l_values, l_stack), upd m_refused 0 (m_refused 0 + 1), m_s, m_stack, m_facts, ?_, ?_, Or.inr (Or.inl rfl), rc_mi hc⟩
    · rw [if_neg h]; rfl
    · rw [if_neg h]; rfl
  rw [if_pos h, if_pos h, b2_s, if_pos rfl, c_range, b3_s, if_neg (show ¬ (1 : Int32) = 0 by decide), m_within]
  by_cases h2 : 0 ≤ n2 ∧ n2 ≤ 15
  case neg =>
    refine ⟨2, 0, x_missing, x_misused + 1, (s2_year, s2_wet, s2_lost, s2_eaten, s2_tied, s2_ripeMany, s2_gone, s2_place, s2_heard, s2_many, s2_lying, s2_ripe, l_values, l_stack), upd m_refused 1 (m_refused 1 + 1), m_s, m_stack, m_facts, ?_, ?_, Or.inr (Or.inr rfl), rc_mu hc⟩
    · rw [if_neg h2]; rfl
    · rw [if_neg h2]; rfl
  rw [if_pos h2, if_pos h2, b2_s, if_pos rfl, c_range, b1_s, if_neg (show ¬ (1 : Int32) = 0 by decide), m_within]
  by_cases h3 : 1 ≤ n3 ∧ n3 ≤ 20
  case neg =>
    refine ⟨2, 0, x_missing, x_misused + 1, (s2_year, s2_wet, s2_lost, s2_eaten, s2_tied, s2_ripeMany, s2_gone, s2_place, s2_heard, s2_many, s2_lying, s2_ripe, l_values, l_stack), upd m_refused 1 (m_refused 1 + 1), m_s, m_stack, m_facts, ?_, ?_, Or.inr (Or.inr rfl), rc_mu hc⟩
    · rw [if_neg h3]; rfl
    · rw [if_neg h3]; rfl
  obtain ⟨b, hb, rfl⟩ := inL (B := gB π) (by omega) h.1 h.2
  obtain ⟨N, hN, rfl⟩ := inN (B := 20) (by decide) (Int32.le_trans (by decide) h3.1) h3.2
  obtain ⟨m2, e2, hT⟩ := m_take (m_s := m_s) ok os hM
  obtain ⟨go, pl, he, ma, ly, ri, e3, hU⟩ := c_copy (t_year := s2_year) (t_wet := s2_wet) (t_lost := s2_lost) (t_eaten := s2_eaten) (t_tied := s2_tied) (t_ripeMany := s2_ripeMany) (t_gone := s2_gone) (t_place := s2_place) (t_heard := s2_heard) (t_many := s2_many) (t_lying := s2_lying) (t_ripe := s2_ripe) ok os hS
  obtain ⟨T, e4⟩ := c_rains42 (s_year := s_year) (s_wet := s_wet) (s_lost := s_lost) (s_eaten := s_eaten) (s_tied := s_tied) (s_ripeMany := s_ripeMany) (s_gone := s_gone) (s_place := s_place) (s_heard := s_heard) (s_many := s_many) (s_lying := s_lying) (s_ripe := s_ripe) (x_missing := x_missing) (x_misused := x_misused) (n2 := n2) hP ok hR okl (N := N) (b := b) (by omega) (by omega) 40 0 FU σ _ _ _ _ _ _ _ _ _ _ _ _ l_values l_stack (by omega) (FU_gt (by omega)) os hU
  obtain ⟨st5, fa5, ms5, e5⟩ := m_rains57 (m_now := m_now) (m_thrown := 0) (m_refused := m_refused) (n2 := n2) hQ ok hR2 okl (N := N) (b := b) (by omega) (by omega) 40 0 FU σ m_stack m_facts m2 (by omega) (FU_gt (by omega)) os hT
  refine ⟨0, rainsS π c b N n2 40 0 σ, x_missing, x_misused, T, m_refused, ms5, st5, fa5, ?_, ?_, Or.inl rfl, hc⟩
  · rw [if_pos h3, b2_s, if_pos rfl, e3, b12_s]
    exact e4
  · rw [if_pos h3, b1_s, if_neg (by decide)]
    unfold f_X10_rains_40
    rw [m_may1, b3_s, if_neg (by decide), e2, b1_s]
    exact e5
end KD
