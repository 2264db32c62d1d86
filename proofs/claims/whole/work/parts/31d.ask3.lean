/-! ===== runs, would, ahead, rains ===== -/
section KC
variable {π : Pg} {σ : Sg} {s_year s_wet s_lost s_eaten s_tied s_ripeMany : Int32} {s_gone s_place s_heard s_many s_lying s_ripe : Nat → Int32}
variable {s2_year s2_wet s2_lost s2_eaten s2_tied s2_ripeMany : Int32} {s2_gone s2_place s2_heard s2_many s2_lying s2_ripe : Nat → Int32}
variable {p_beds p_letters p_readers : Int32} {p_far p_drain p_length p_words p_home : Nat → Int32}
variable {m_s m_now m_bed m_letter m_reader m_refused : Nat → Int32} {m_beds m_letters m_readers m_thrown x_missing x_misused : Int32}
variable {c : List Tk} {l_code l_values l_stack : Nat → Int32} {l_length : Int32} {m_code m_ofCode m_stack m_facts : Nat → Int32} {m_codes : Int32}
theorem k_runs (hS : RS π σ (s_year, s_wet, s_lost, s_eaten, s_tied, s_ripeMany, s_gone, s_place, s_heard, s_many, s_lying, s_ripe)) (hM : RM π σ m_now) (hP : RPc π (p_beds, p_letters, p_readers, p_far, p_drain, p_length, p_words, p_home)) (hQ : RPm π m_beds m_letters m_readers m_bed m_letter m_reader) (ok : OkP π) (os : OkS π σ) (hR : RLc c l_code l_length) (hR2 : RLm c m_code m_ofCode m_codes) (okl : OkL c) (hc : RC x_missing x_misused m_refused) (n1 n2 : Int32) :
    ∃ ex r mi mu va st rf s2 st2 fa, f_X9_runs x_missing x_misused s_year s_wet s_gone s_many p_letters p_far p_drain p_length l_code l_values l_stack l_length n1 n2 = some (ex, r, mi, mu, va, st) ∧ f_X10_runs m_thrown m_refused m_bed m_letter m_letters m_code m_ofCode m_stack m_codes m_facts m_now m_s n1 n2 = some (r, nI ex, rf, st2, fa, s2) ∧ (ex = 0 ∨ ex = 1 ∨ ex = 2) ∧ RC mi mu rf := by
  have h6 := ok.2.1
  have hw9 := os.2.1
  unfold f_X9_runs f_X10_runs
  rw [c_one, hP.2.1, hQ.2.1, m_isL _ (by omega)]
  by_cases h : 0 ≤ n1 ∧ n1 < nI (gL π)
  · obtain ⟨l, hl, rfl⟩ := inL (B := gL π) (by omega) h.1 h.2
    rw [if_pos h, if_pos h]
    by_cases h2 : 1 ≤ n2 ∧ n2 ≤ 20
    · obtain ⟨k, hk, rfl⟩ := inN (B := 20) (by decide) (Int32.le_trans (by decide) h2.1) h2.2
      obtain ⟨m2, e2, hT⟩ := m_take (m_s := m_s) ok os hM
      obtain ⟨va, st, e3⟩ := c_runOf (l_values := l_values) (l_stack := l_stack) (n := k) (w := min 99 (gWt σ + k)) hS hP ok os hR okl hl
      obtain ⟨st2, fa, e4⟩ := m_runBy (m_stack := m_stack) (m_facts := m_facts) (n := k) (w := min 99 (gWt σ + k)) hT hQ ok os hR2 okl hl
      refine ⟨0, nI (rN π c k (min 99 (gWt σ + k)) σ l), x_missing, x_misused, va, st, m_refused, m2, st2, fa, ?_, ?_, Or.inl rfl, hc⟩
      · rw [b2_s, if_pos rfl, c_range, if_pos h2, b2_s, if_pos rfl, c_wetBy hS os (by omega), b1_s, e3, b3_s]
      · rw [b3_s, if_neg (by decide), m_within, b1_s, if_pos h2, m_may1, b3_s, if_neg (by decide), e2, b1_s, show ixb 161 165 = true from rfl, if_pos rfl, show (161 : Int32).toNatClampNeg = 161 from rfl, hT.2.1, nI_add, show (99 : Int32) = nI 99 from rfl, m_held (by omega) (by omega), b1_s, e4, b3_s]
        rfl
    · refine ⟨2, 0, x_missing, x_misused + 1, l_values, l_stack, upd m_refused 1 (m_refused 1 + 1), m_s, m_stack, m_facts, ?_, ?_, Or.inr (Or.inr rfl), rc_mu hc⟩
      · rw [b2_s, if_pos rfl, c_range, if_neg h2]; rfl
      · rw [b3_s, if_neg (by decide), m_within, b1_s, if_neg h2]; rfl
  · refine ⟨1, 0, x_missing + 1, x_misused, l_values, l_stack, upd m_refused 0 (m_refused 0 + 1), m_s, m_stack, m_facts, ?_, ?_, Or.inr (Or.inl rfl), rc_mi hc⟩
    · rw [if_neg h]; rfl
    · rw [if_neg h]; rfl

theorem k_would (hR : RLc c l_code l_length) (hR2 : RLm c m_code m_ofCode m_codes) (okl : OkL c) (hc : RC x_missing x_misused m_refused) (n1 n2 n3 n4 n5 n6 n7 : Int32) :
    ∃ ex r mu va st rf st2 fa, f_X9_would x_misused l_code l_values l_stack l_length n1 n2 n3 n4 n5 n6 n7 = some (ex, r, mu, va, st) ∧ f_X10_would m_thrown m_refused m_code m_ofCode m_stack m_codes m_facts n1 n2 n3 n4 n5 n6 n7 = some (r, if ex = 0 then 0 else 1, rf, st2, fa) ∧ (ex = 0 ∨ ex = 2) ∧ RC x_missing mu rf := by
  unfold f_X9_would f_X10_would
  rw [c_range, m_within]
  by_cases h1 : 0 ≤ n1 ∧ n1 ≤ 20
  case neg =>
    refine ⟨2, 0, x_misused + 1, l_values, l_stack, upd m_refused 1 (m_refused 1 + 1), m_stack, m_facts, ?_, ?_, Or.inr rfl, rc_mu hc⟩
    · rw [if_neg h1]; rfl
    · rw [if_neg h1]; rfl
  rw [if_pos h1, if_pos h1]
  rw [b2_s, if_pos rfl, c_range, b1_s, if_neg (show ¬ (1 : Int32) = 0 by decide), m_within]
  by_cases h2 : 0 ≤ n2 ∧ n2 ≤ 99
  case neg =>
    refine ⟨2, 0, x_misused + 1, l_values, l_stack, upd m_refused 1 (m_refused 1 + 1), m_stack, m_facts, ?_, ?_, Or.inr rfl, rc_mu hc⟩
    · rw [if_neg h2]; rfl
    · rw [if_neg h2]; rfl
  rw [if_pos h2, if_pos h2]
  rw [b2_s, if_pos rfl, c_range, b1_s, if_neg (show ¬ (1 : Int32) = 0 by decide), m_within]
  by_cases h3 : 0 ≤ n3 ∧ n3 ≤ 8
  case neg =>
    refine ⟨2, 0, x_misused + 1, l_values, l_stack, upd m_refused 1 (m_refused 1 + 1), m_stack, m_facts, ?_, ?_, Or.inr rfl, rc_mu hc⟩
    · rw [if_neg h3]; rfl
    · rw [if_neg h3]; rfl
  rw [if_pos h3, if_pos h3]
  rw [b2_s, if_pos rfl, c_range, b1_s, if_neg (show ¬ (1 : Int32) = 0 by decide), m_within]
  by_cases h4 : 0 ≤ n4 ∧ n4 ≤ 30
  case neg =>
    refine ⟨2, 0, x_misused + 1, l_values, l_stack, upd m_refused 1 (m_refused 1 + 1), m_stack, m_facts, ?_, ?_, Or.inr rfl, rc_mu hc⟩
    · rw [if_neg h4]; rfl
    · rw [if_neg h4]; rfl
  rw [if_pos h4, if_pos h4]
  rw [b2_s, if_pos rfl, c_range, b1_s, if_neg (show ¬ (1 : Int32) = 0 by decide), m_within]
  by_cases h5 : 0 ≤ n5 ∧ n5 ≤ 12
  case neg =>
    refine ⟨2, 0, x_misused + 1, l_values, l_stack, upd m_refused 1 (m_refused 1 + 1), m_stack, m_facts, ?_, ?_, Or.inr rfl, rc_mu hc⟩
    · rw [if_neg h5]; rfl
    · rw [if_neg h5]; rfl
  rw [if_pos h5, if_pos h5]
  rw [b2_s, if_pos rfl, c_range, b1_s, if_neg (show ¬ (1 : Int32) = 0 by decide), m_within]
  by_cases h6 : 0 ≤ n6 ∧ n6 ≤ 400
  case neg =>
    refine ⟨2, 0, x_misused + 1, l_values, l_stack, upd m_refused 1 (m_refused 1 + 1), m_stack, m_facts, ?_, ?_, Or.inr rfl, rc_mu hc⟩
    · rw [if_neg h6]; rfl
    · rw [if_neg h6]; rfl
  rw [if_pos h6, if_pos h6]
  rw [b2_s, if_pos rfl, c_range, b1_s, if_neg (show ¬ (1 : Int32) = 0 by decide), m_within]
  by_cases h7 : 0 ≤ n7 ∧ n7 ≤ 5
  case neg =>
    refine ⟨2, 0, x_misused + 1, l_values, l_stack, upd m_refused 1 (m_refused 1 + 1), m_stack, m_facts, ?_, ?_, Or.inr rfl, rc_mu hc⟩
    · rw [if_neg h7]; rfl
    · rw [if_neg h7]; rfl
  rw [if_pos h7, if_pos h7]
  obtain ⟨va, st, e3⟩ := c_tells (l_values := l_values) (l_stack := l_stack) (n1 := n1) (n2 := n2) (n3 := n3) (n4 := n4) (n5 := n5) (n6 := n6) (n7 := n7) hR okl
  obtain ⟨st2, fa, e4⟩ := m_runOf (m_stack := m_stack) (m_facts := m_facts) (n1 := n1) (n2 := n2) (n3 := n3) (n4 := n4) (n5 := n5) (n6 := n6) (n7 := n7) hR2 okl
  refine ⟨0, nI (runN (envL n1 n2 n3 n4 n5 n6 n7) c), x_misused, va, st, m_refused, st2, fa, ?_, ?_, Or.inl rfl, hc⟩
  · rw [b2_s, if_pos rfl, e3, b3_s]
  · rw [b1_s, if_neg (by decide)]
    unfold f_X10_would_85
    rw [m_may1, b3_s, if_neg (by decide), e4, b3_s]
    rfl

def vAhead (τ : Sg) : Nat → Int32
  | 0 => sumI (fun b => nI (gLy τ b).length) 6
  | 1 => nI (gRp τ).length
  | _ => nI (gWt τ)
theorem okS_year' (os : OkS π σ) {Y : Nat} (hY : gYr σ ≤ Y) (h : Y < 100000) : OkS π (oYear π σ) ∧ gYr (oYear π σ) ≤ Y + 1 := ⟨okS_year os (by omega), by show gYr σ + 1 ≤ Y + 1; omega⟩
theorem c_ahead28 (hP : RPc π (p_beds, p_letters, p_readers, p_far, p_drain, p_length, p_words, p_home)) (ok : OkP π) {N k2 : Nat} (hN : N ≤ 99) (h2 : k2 = 0 ∨ k2 = 1 ∨ k2 = 2) (os : OkS π σ) (hy : gYr σ ≤ 400) {q : STt} (hS : RS π σ q) : ∃ T : STt, f_X9_ahead_28 s_year s_wet s_lost s_eaten s_tied s_ripeMany s_gone s_place s_heard s_many s_lying s_ripe p_beds (nI N) (nI k2) FU 0 x_misused q.1 q.2.1 q.2.2.1 q.2.2.2.1 q.2.2.2.2.1 q.2.2.2.2.2.1 q.2.2.2.2.2.2.1 q.2.2.2.2.2.2.2.1 q.2.2.2.2.2.2.2.2.1 q.2.2.2.2.2.2.2.2.2.1 q.2.2.2.2.2.2.2.2.2.2.1 q.2.2.2.2.2.2.2.2.2.2.2 = some (0, vAhead (itN (fun _ τ => oYear π τ) N 0 σ) k2, x_misused, T) := by
  have h60 := os.2.2.2.2.2.1
  obtain ⟨c', e, ot, hyt, hT⟩ := loopR (A := Sg) (C := STt) (F := fun n q x => f_X9_ahead_28 s_year s_wet s_lost s_eaten s_tied s_ripeMany s_gone s_place s_heard s_many s_lying s_ripe p_beds (nI N) (nI k2) n x x_misused q.1 q.2.1 q.2.2.1 q.2.2.2.1 q.2.2.2.2.1 q.2.2.2.2.2.1 q.2.2.2.2.2.2.1 q.2.2.2.2.2.2.2.1 q.2.2.2.2.2.2.2.2.1 q.2.2.2.2.2.2.2.2.2.1 q.2.2.2.2.2.2.2.2.2.2.1 q.2.2.2.2.2.2.2.2.2.2.2) (B := N) (step := fun _ τ => oYear π τ) (fin := fun q => f_X9_ahead_28 s_year s_wet s_lost s_eaten s_tied s_ripeMany s_gone s_place s_heard s_many s_lying s_ripe p_beds (nI N) (nI k2) 1 (nI N) x_misused q.1 q.2.1 q.2.2.1 q.2.2.2.1 q.2.2.2.2.1 q.2.2.2.2.2.1 q.2.2.2.2.2.2.1 q.2.2.2.2.2.2.2.1 q.2.2.2.2.2.2.2.2.1 q.2.2.2.2.2.2.2.2.2.1 q.2.2.2.2.2.2.2.2.2.2.1 q.2.2.2.2.2.2.2.2.2.2.2) (Q := fun k τ q => OkS π τ ∧ gYr τ ≤ 400 + k ∧ RS π τ q) (fun n q => by
      show f_X9_ahead_28 s_year s_wet s_lost s_eaten s_tied s_ripeMany s_gone s_place s_heard s_many s_lying s_ripe p_beds (nI N) (nI k2) (n + 1) (nI N) x_misused q.1 q.2.1 q.2.2.1 q.2.2.2.1 q.2.2.2.2.1 q.2.2.2.2.2.1 q.2.2.2.2.2.2.1 q.2.2.2.2.2.2.2.1 q.2.2.2.2.2.2.2.2.1 q.2.2.2.2.2.2.2.2.2.1 q.2.2.2.2.2.2.2.2.2.2.1 q.2.2.2.2.2.2.2.2.2.2.2 = f_X9_ahead_28 s_year s_wet s_lost s_eaten s_tied s_ripeMany s_gone s_place s_heard s_many s_lying s_ripe p_beds (nI N) (nI k2) (0 + 1) (nI N) x_misused q.1 q.2.1 q.2.2.1 q.2.2.2.1 q.2.2.2.2.1 q.2.2.2.2.2.1 q.2.2.2.2.2.2.1 q.2.2.2.2.2.2.2.1 q.2.2.2.2.2.2.2.2.1 q.2.2.2.2.2.2.2.2.2.1 q.2.2.2.2.2.2.2.2.2.2.1 q.2.2.2.2.2.2.2.2.2.2.2
      rw [f_X9_ahead_28, f_X9_ahead_28, if_pos (Int32.le_refl _), if_pos (Int32.le_refl _)]) (fun n τ q k hk hq => by
      obtain ⟨y, w, lo, ea, ti, rm, go, pl, he, ma, ly, ri⟩ := q
      obtain ⟨ot, hyt, hT⟩ := hq
      obtain ⟨y2, w2, rm2, ma2, ly2, ri2, e2, q2⟩ := c_passYear hT hP ok ot
      refine ⟨(y2, w2, lo, ea, ti, rm2, go, pl, he, ma2, ly2, ri2), ?_, (okS_year' ot hyt (by omega)).1, (okS_year' ot hyt (by omega)).2, q2⟩
      show f_X9_ahead_28 s_year s_wet s_lost s_eaten s_tied s_ripeMany s_gone s_place s_heard s_many s_lying s_ripe p_beds (nI N) (nI k2) (n + 1) (nI k) x_misused y w lo ea ti rm go pl he ma ly ri = f_X9_ahead_28 s_year s_wet s_lost s_eaten s_tied s_ripeMany s_gone s_place s_heard s_many s_lying s_ripe p_beds (nI N) (nI k2) n (nI (k + 1)) x_misused y2 w2 lo ea ti rm2 go pl he ma2 ly2 ri2
      rw [f_X9_ahead_28]
      simp (disch := omega) only [nI_leJ]
      rw [if_neg (by omega), e2, b6_s, nI_1])
      N 0 FU σ q (by omega) (FU_gt (by omega)) ⟨os, by omega, hS⟩
  obtain ⟨y, w, lo, ea, ti, rm, go, pl, he, ma, ly, ri⟩ := c'
  refine ⟨(y, w, lo, ea, ti, rm, go, pl, he, ma, ly, ri), e.trans ?_⟩
  show f_X9_ahead_28 s_year s_wet s_lost s_eaten s_tied s_ripeMany s_gone s_place s_heard s_many s_lying s_ripe p_beds (nI N) (nI k2) (0 + 1) (nI N) x_misused y w lo ea ti rm go pl he ma ly ri = some (0, _, x_misused, (y, w, lo, ea, ti, rm, go, pl, he, ma, ly, ri))
  rw [f_X9_ahead_28, if_pos (Int32.le_refl _), c_lyingInAll hT, b1_s]
  have r2 := hT.2.1
  have r6 := hT.2.2.2.2.2.1
  rcases h2 with rfl | rfl | rfl
  · rfl
  · rw [r6]; rfl
  · rw [r2]; rfl
theorem m_ahead46 (hP : RPm π m_beds m_letters m_readers m_bed m_letter m_reader) (ok : OkP π) {N k2 : Nat} (hN : N ≤ 99) (h2 : k2 = 0 ∨ k2 = 1 ∨ k2 = 2) (os : OkS π σ) (hy : gYr σ ≤ 400) (hS : RM π σ m_s) : ∃ s2, f_X10_ahead_46 m_beds m_now (nI N) (nI k2) FU 0 m_thrown m_refused m_s = some (vAhead (itN (fun _ τ => oYear π τ) N 0 σ) k2, m_thrown, m_refused, s2) := by
  obtain ⟨c', e, ot, hyt, hT⟩ := loopR (A := Sg) (C := Nat → Int32) (F := fun n q x => f_X10_ahead_46 m_beds m_now (nI N) (nI k2) n x m_thrown m_refused q) (B := N) (step := fun _ τ => oYear π τ) (fin := fun q => f_X10_ahead_46 m_beds m_now (nI N) (nI k2) 1 (nI N) m_thrown m_refused q) (Q := fun k τ q => OkS π τ ∧ gYr τ ≤ 400 + k ∧ RM π τ q) (fun n q => by
      show f_X10_ahead_46 m_beds m_now (nI N) (nI k2) (n + 1) (nI N) m_thrown m_refused q = f_X10_ahead_46 m_beds m_now (nI N) (nI k2) (0 + 1) (nI N) m_thrown m_refused q
      rw [f_X10_ahead_46, f_X10_ahead_46, if_pos (Int32.le_refl _), if_pos (Int32.le_refl _)]) (fun n τ q k hk hq => by
      obtain ⟨ot, hyt, hT⟩ := hq
      obtain ⟨m2, e2, q2⟩ := m_passes hT hP ok ot
      refine ⟨m2, ?_, (okS_year' ot hyt (by omega)).1, (okS_year' ot hyt (by omega)).2, q2⟩
      show f_X10_ahead_46 m_beds m_now (nI N) (nI k2) (n + 1) (nI k) m_thrown m_refused q = f_X10_ahead_46 m_beds m_now (nI N) (nI k2) n (nI (k + 1)) m_thrown m_refused m2
      rw [f_X10_ahead_46]
      simp (disch := omega) only [nI_leJ]
      rw [if_neg (by omega), e2, b1_s, nI_1])
      N 0 FU σ m_s (by omega) (FU_gt (by omega)) ⟨os, by omega, hS⟩
  refine ⟨c', e.trans ?_⟩
  show f_X10_ahead_46 m_beds m_now (nI N) (nI k2) (0 + 1) (nI N) m_thrown m_refused c' = _
  rw [f_X10_ahead_46, if_pos (Int32.le_refl _), m_sum84 hT, b1_s]
  have r2 := hT.2.1
  have r6 := hT.2.2.2.2.2.1
  rcases h2 with rfl | rfl | rfl
  · rfl
  · rw [show (160 : Int32).toNatClampNeg = 160 from rfl, r6]; rfl
  · rw [show (161 : Int32).toNatClampNeg = 161 from rfl, r2]; rfl
theorem k_ahead (hS : RS π σ (s_year, s_wet, s_lost, s_eaten, s_tied, s_ripeMany, s_gone, s_place, s_heard, s_many, s_lying, s_ripe)) (hM : RM π σ m_now) (hP : RPc π (p_beds, p_letters, p_readers, p_far, p_drain, p_length, p_words, p_home)) (hQ : RPm π m_beds m_letters m_readers m_bed m_letter m_reader) (ok : OkP π) (os : OkS π σ) (hy : gYr σ ≤ 400) (hc : RC x_missing x_misused m_refused) (n1 n2 : Int32) :
    ∃ ex r mu, ∃ T : STt, ∃ rf s2, f_X9_ahead x_misused s_year s_wet s_lost s_eaten s_tied s_ripeMany s_gone s_place s_heard s_many s_lying s_ripe s2_year s2_wet s2_lost s2_eaten s2_tied s2_ripeMany s2_gone s2_place s2_heard s2_many s2_lying s2_ripe p_beds n1 n2 = some (ex, r, mu, T) ∧ f_X10_ahead m_thrown m_refused m_beds m_now m_s n1 n2 = some (r, if ex = 0 then 0 else 1, rf, s2) ∧ (ex = 0 ∨ ex = 2) ∧ RC x_missing mu rf := by
  unfold f_X9_ahead f_X10_ahead
  rw [c_range, m_within]
  by_cases h1 : 0 ≤ n1 ∧ n1 ≤ 99
  case neg =>
    refine ⟨2, 0, x_misused + 1, (s2_year, s2_wet, s2_lost, s2_eaten, s2_tied, s2_ripeMany, s2_gone, s2_place, s2_heard, s2_many, s2_lying, s2_ripe), upd m_refused 1 (m_refused 1 + 1), m_s, ?_, ?_, Or.inr rfl, rc_mu hc⟩
    · rw [if_neg h1]; rfl
    · rw [if_neg h1]; rfl
  rw [if_pos h1, if_pos h1, b2_s, if_pos rfl, c_range, b1_s, if_neg (show ¬ (1 : Int32) = 0 by decide), m_within]
  by_cases h2 : 0 ≤ n2 ∧ n2 ≤ 2
  case neg =>
    refine ⟨2, 0, x_misused + 1, (s2_year, s2_wet, s2_lost, s2_eaten, s2_tied, s2_ripeMany, s2_gone, s2_place, s2_heard, s2_many, s2_lying, s2_ripe), upd m_refused 1 (m_refused 1 + 1), m_s, ?_, ?_, Or.inr rfl, rc_mu hc⟩
    · rw [if_neg h2]; rfl
    · rw [if_neg h2]; rfl
  obtain ⟨N, hN, rfl⟩ := inN (B := 99) (by decide) h1.1 h1.2
  obtain ⟨k, hk, rfl⟩ := inN (B := 2) (by decide) h2.1 h2.2
  obtain ⟨m2, e2, hT⟩ := m_take (m_s := m_s) ok os hM
  obtain ⟨go, pl, he, ma, ly, ri, e3, hU⟩ := c_copy (t_year := s2_year) (t_wet := s2_wet) (t_lost := s2_lost) (t_eaten := s2_eaten) (t_tied := s2_tied) (t_ripeMany := s2_ripeMany) (t_gone := s2_gone) (t_place := s2_place) (t_heard := s2_heard) (t_many := s2_many) (t_lying := s2_lying) (t_ripe := s2_ripe) ok os hS
  have hcs : k = 0 ∨ k = 1 ∨ k = 2 := by omega
  obtain ⟨T, e4⟩ := c_ahead28 (s_year := s_year) (s_wet := s_wet) (s_lost := s_lost) (s_eaten := s_eaten) (s_tied := s_tied) (s_ripeMany := s_ripeMany) (s_gone := s_gone) (s_place := s_place) (s_heard := s_heard) (s_many := s_many) (s_lying := s_lying) (s_ripe := s_ripe) (x_misused := x_misused) hP ok hN hcs os hy hU
  obtain ⟨s3, e5⟩ := m_ahead46 (m_now := m_now) (m_thrown := 0) (m_refused := m_refused) hQ ok hN hcs os hy hT
  refine ⟨0, vAhead (itN (fun _ τ => oYear π τ) N 0 σ) k, x_misused, T, m_refused, s3, ?_, ?_, Or.inl rfl, hc⟩
  · rw [if_pos h2, b2_s, if_pos rfl, e3]
    exact e4
  · rw [if_pos h2, b1_s, if_neg (by decide)]
    unfold f_X10_ahead_30
    rw [m_may1, b3_s, if_neg (by decide), e2, b1_s, e5]
    rfl

end KC
