/-! ===== law ===== -/
section LX
variable {tx : Nat → Nat} {N : Nat} {tb mt : Nat → Int32}
theorem L_prod (h : RTx tx N tb mt) (hN : N ≤ 150) {o D E : Nat} (ho : o ≤ 6) (hU : PY tx N tb mt o (19 - 3 * o) (f_X1_readUnit D) (f_X10_readUnit E)) : PY tx N tb mt o (20 - 3 * o) (f_X1_readProduct (D + 1)) (f_X10_readProduct (E + 1)) := by
  intro s c code nc no len ncs ca cs ck cp ma mb mk op hS hl hR
  show PYr tx N s c o (20 - 3 * o) (f_X1_readProduct_b (f_X1_readSum D) (f_X1_readProduct D) (f_X1_readUnit D) (f_X1_readOpen D) code len tb (nI N) ca cs ck cp (nI o)) (f_X10_readProduct_b (f_X10_readSum E) (f_X10_readProduct E) (f_X10_readUnit E) (f_X10_readTwo E) (nI N) ma mb mk op mt nc no ncs)
  unfold f_X1_readProduct_b f_X10_readProduct_b
  obtain ⟨s1, c1, code1, len1, ca1, cs1, ck1, cp1, ma1, mb1, mk1, op1, nc1, no1, ncs1, e1, e2, hS1, ha1, hl1, hR1⟩ := hU s c code nc no len ncs ca cs ck cp ma mb mk op hS hl hR
  have hc1 : ∀ r1, s1 = .inl r1 → op1 = nI o ∧ RLs c1 code1 len1 nc1 no1 ncs1 ∧ c1.length ≤ r1 ∧ N - r1 ≤ N ∧ 0 ≤ r1 := by
    intro r1 hr1
    obtain ⟨r, rfl, hlt⟩ := adv_inl ha1 hr1
    obtain ⟨g1, g2, t, g3, g4, g5⟩ := hR1 r1 hr1
    have a := g4 r rfl
    have b := (hR r rfl).2.2
    have e : c1.length = c.length + t.length := by rw [g3, List.length_append]
    exact ⟨g1, g2, by omega, by omega, by omega⟩
  obtain ⟨s2, c2, code2, len2, ca2, cs2, ck2, cp2, ma2, mb2, mk2, op2, nc2, no2, ncs2, e3, e4, hS2, ha2, hl2, hR2⟩ := L_ploop (q1 := f_X1_readSum D) (q2 := f_X1_readProduct D) (q4 := f_X1_readOpen D) (k1 := f_X10_readSum E) (k2 := f_X10_readProduct E) (k4 := f_X10_readTwo E) h hN ho hU N 0 FU FU s1 c1 code1 nc1 no1 len1 ncs1 ca1 cs1 ck1 cp1 ma1 mb1 mk1 op1 (FU_gt (by omega)) (FU_gt (by omega)) hS1 hl1 hc1
  rw [e1, b6_s, e2, b7_s]
  refine ⟨s2, c2, code2, len2, ca2, cs2, ck2, cp2, ma2, mb2, mk2, op2, nc2, no2, ncs2, e3, e4, hS2, ⟨fun x hx => ha2.1 x (ha1.1 x hx), fun r r' hr hr' => ?_⟩, hl2, fun r' hr' => ?_⟩
  · cases s1 with
    | inr x => have := ha2.1 x rfl; rw [hr'] at this; cases this
    | inl r1 => have a := ha1.2 r r1 hr rfl; have b := ha2.2 r1 r' rfl hr'; omega
  · cases s1 with
    | inr x => have := ha2.1 x rfl; rw [hr'] at this; cases this
    | inl r1 =>
      obtain ⟨g1, g2, t, g3, g4, g5⟩ := hR1 r1 rfl
      obtain ⟨k1, k2, u, k3, k4, k5⟩ := hR2 r' hr'
      refine ⟨k1, k2, t ++ u, by rw [k3, g3, List.append_assoc], fun r hr => ?_, fun d hd => chT_app _ _ d (d + 1) (d + 1) (g5 d (by omega)) (k5 d hd)⟩
      have a := g4 r hr
      have b := k4 r1 rfl
      rw [List.length_append]
      omega
theorem L_sum (h : RTx tx N tb mt) (hN : N ≤ 150) {o D E : Nat} (ho : o ≤ 6) (hU : PY tx N tb mt o (20 - 3 * o) (f_X1_readProduct D) (f_X10_readProduct E)) : PY tx N tb mt o (21 - 3 * o) (f_X1_readSum (D + 1)) (f_X10_readSum (E + 1)) := by
  intro s c code nc no len ncs ca cs ck cp ma mb mk op hS hl hR
  show PYr tx N s c o (21 - 3 * o) (f_X1_readSum_b (f_X1_readSum D) (f_X1_readProduct D) (f_X1_readUnit D) (f_X1_readOpen D) code len tb (nI N) ca cs ck cp (nI o)) (f_X10_readSum_b (f_X10_readSum E) (f_X10_readProduct E) (f_X10_readUnit E) (f_X10_readTwo E) (nI N) ma mb mk op mt nc no ncs)
  unfold f_X1_readSum_b f_X10_readSum_b
  obtain ⟨s1, c1, code1, len1, ca1, cs1, ck1, cp1, ma1, mb1, mk1, op1, nc1, no1, ncs1, e1, e2, hS1, ha1, hl1, hR1⟩ := hU s c code nc no len ncs ca cs ck cp ma mb mk op hS hl hR
  have hc1 : ∀ r1, s1 = .inl r1 → op1 = nI o ∧ RLs c1 code1 len1 nc1 no1 ncs1 ∧ c1.length ≤ r1 ∧ N - r1 ≤ N ∧ 0 ≤ r1 := by
    intro r1 hr1
    obtain ⟨r, rfl, hlt⟩ := adv_inl ha1 hr1
    obtain ⟨g1, g2, t, g3, g4, g5⟩ := hR1 r1 hr1
    have a := g4 r rfl
    have b := (hR r rfl).2.2
    have e : c1.length = c.length + t.length := by rw [g3, List.length_append]
    exact ⟨g1, g2, by omega, by omega, by omega⟩
  obtain ⟨s2, c2, code2, len2, ca2, cs2, ck2, cp2, ma2, mb2, mk2, op2, nc2, no2, ncs2, e3, e4, hS2, ha2, hl2, hR2⟩ := L_sloop (q1 := f_X1_readSum D) (q3 := f_X1_readUnit D) (q4 := f_X1_readOpen D) (k1 := f_X10_readSum E) (k3 := f_X10_readUnit E) (k4 := f_X10_readTwo E) h hN ho hU N 0 FU FU s1 c1 code1 nc1 no1 len1 ncs1 ca1 cs1 ck1 cp1 ma1 mb1 mk1 op1 (FU_gt (by omega)) (FU_gt (by omega)) hS1 hl1 hc1
  rw [e1, b6_s, e2, b7_s]
  refine ⟨s2, c2, code2, len2, ca2, cs2, ck2, cp2, ma2, mb2, mk2, op2, nc2, no2, ncs2, e3, e4, hS2, ⟨fun x hx => ha2.1 x (ha1.1 x hx), fun r r' hr hr' => ?_⟩, hl2, fun r' hr' => ?_⟩
  · cases s1 with
    | inr x => have := ha2.1 x rfl; rw [hr'] at this; cases this
    | inl r1 => have a := ha1.2 r r1 hr rfl; have b := ha2.2 r1 r' rfl hr'; omega
  · cases s1 with
    | inr x => have := ha2.1 x rfl; rw [hr'] at this; cases this
    | inl r1 =>
      obtain ⟨g1, g2, t, g3, g4, g5⟩ := hR1 r1 rfl
      obtain ⟨k1, k2, u, k3, k4, k5⟩ := hR2 r' hr'
      refine ⟨k1, k2, t ++ u, by rw [k3, g3, List.append_assoc], fun r hr => ?_, fun d hd => chT_app _ _ d (d + 1) (d + 1) (g5 d (by omega)) (k5 d hd)⟩
      have a := g4 r hr
      have b := k4 r1 rfl
      rw [List.length_append]
      omega
theorem L_sums (h : RTx tx N tb mt) (hN : N ≤ 150) : ∀ (n o D E : Nat), o + n = 6 → 4 * (7 - o) ≤ D → 4 * (6 - o) + 7 ≤ E → PY tx N tb mt o (21 - 3 * o) (f_X1_readSum D) (f_X10_readSum E) := by
  intro n
  induction n with
  | zero =>
    intro o D E ho hD hE
    obtain ⟨D, rfl⟩ : ∃ j, D = j + 4 := ⟨D - 4, by omega⟩
    obtain ⟨E, rfl⟩ : ∃ j, E = j + 4 := ⟨E - 4, by omega⟩
    exact L_sum h hN (by omega) (L_prod h hN (by omega) (L_unit h hN (by omega) (by omega) (by omega) (fun h6 => absurd h6 (by omega))))
  | succ n ih =>
    intro o D E ho hD hE
    obtain ⟨D, rfl⟩ : ∃ j, D = j + 4 := ⟨D - 4, by omega⟩
    obtain ⟨E, rfl⟩ : ∃ j, E = j + 4 := ⟨E - 4, by omega⟩
    have e : 21 - 3 * (o + 1) = 18 - 3 * o := by omega
    exact L_sum h hN (by omega) (L_prod h hN (by omega) (L_unit h hN (by omega) (by omega) (by omega) (fun _ => ⟨by rw [← e]; exact ih (o + 1) D E (by omega) (by omega) (by omega), by rw [← e]; exact ih (o + 1) D (E + 1) (by omega) (by omega) (by omega)⟩)))
end LX
section KW
variable {x_missing x_misused m_thrown t_end t_at t_start t_faultKind t_faultPlace l2_length m_size m_at m_bad m_badKind m_opens m_faultAt m_newCodes m_codes : Int32} {m_refused tb mt l2_code m_newCode m_newOf m_code m_ofCode : Nat → Int32}
theorem k_law {T : Nat} (hT : RT T tb mt) (hb : ByT tb) (hfp : t_faultPlace = m_faultAt) (hc : RC x_missing x_misused m_refused) (n1 : Int32) :
    (∃ te ta ts tk tp lc ll sz ma mk op nc no mc mo ncs c, f_X9_law x_misused tb (nI T) t_end t_at t_start t_faultKind t_faultPlace l2_code l2_length n1 = some (0, 1, x_misused, 0, te, ta, ts, tk, tp, lc, ll, true) ∧ f_X10_law m_thrown m_refused (nI T) m_size m_at m_bad m_badKind m_opens m_faultAt mt m_newCode m_newOf m_code m_ofCode m_newCodes m_codes n1 = some (1, 0, m_refused, 0, sz, ma, -1, mk, op, tp, nc, no, mc, mo, ncs, ncs) ∧ RLc c lc ll ∧ RLm c mc mo ncs ∧ OkL c) ∨
    (∃ ex r mu T2 te ta ts tk tp lc ll rf sz ma bad mk op nc no ncs, f_X9_law x_misused tb (nI T) t_end t_at t_start t_faultKind t_faultPlace l2_code l2_length n1 = some (ex, r, mu, nI T2, te, ta, ts, tk, tp, lc, ll, false) ∧ f_X10_law m_thrown m_refused (nI T) m_size m_at m_bad m_badKind m_opens m_faultAt mt m_newCode m_newOf m_code m_ofCode m_newCodes m_codes n1 = some (r, if ex = 0 then 0 else 1, rf, nI T2, sz, ma, bad, mk, op, tp, nc, no, m_code, m_ofCode, ncs, m_codes) ∧ (ex = 0 ∨ ex = 2) ∧ RC x_missing mu rf ∧ T2 ≤ T) := by
  have h600 := hT.1
  unfold f_X9_law f_X10_law
  rw [show (150 : Int32) = nI 150 from rfl, c_text (by omega) (by omega)]
  by_cases h : 0 ≤ n1 ∧ n1 ≤ nI (min 150 T)
  case neg =>
    refine Or.inr ⟨2, 0, x_misused + 1, T, t_end, t_at, t_start, t_faultKind, t_faultPlace, l2_code, l2_length, upd m_refused 1 (m_refused 1 + 1), m_size, m_at, m_bad, m_badKind, m_opens, m_newCode, m_newOf, m_newCodes, ?_, ?_, Or.inr rfl, rc_mu hc, Nat.le_refl _⟩
    · rw [if_neg h]; rfl
    · rw [hfp]
      by_cases h1 : n1 < 0
      · rw [if_pos h1]; rfl
      · rw [if_neg h1]
        by_cases h2 : nI T < n1
        · rw [if_pos h2]; rfl
        · rw [if_neg h2]
          by_cases h3 : nI 150 < n1
          · rw [if_pos h3]; rfl
          · obtain ⟨N, hN, rfl⟩ := inN (B := T) (by omega) (Int32.not_lt.mp h1) (Int32.not_lt.mp h2)
            rw [nI_ltJ (by omega) (by omega)] at h3
            exact absurd ⟨nI_pos' (by omega), (nI_leI (by omega) (by omega)).mpr (by omega)⟩ h
  obtain ⟨N, hN, rfl⟩ := inN (B := min 150 T) (by omega) h.1 h.2
  obtain ⟨tx, hx⟩ := text_of hT hb (show N ≤ T by omega)
  have h6 := hx.1
  have hS := rt_at (tx := tx) (N := N) (mk := m_badKind) (Nat.zero_le N)
  obtain ⟨s1, c, code1, len1, ca1, cs1, ck1, cp1, ma1, mb1, mk1, op1, nc1, no1, ncs1, e1, e2, hS1, ha1, hl1, hR1⟩ := L_sums hx (by omega) 6 0 40 40 rfl (by decide) (by decide) (.inl (sk tx N 0)) [] l2_code m_newCode m_newOf 0 0 (nI 0) 0 0 (-1) (nI 0) (-1) m_badKind 0 hS ⟨0, by decide, rfl⟩ (fun r hr => ⟨rfl, ⟨⟨rfl, fun k hk => absurd hk (Nat.not_lt_zero _)⟩, rfl, fun k hk => absurd hk (Nat.not_lt_zero _)⟩, Nat.zero_le _⟩)
  have e1 : f_X1_readSum 40 l2_code 0 tb (nI N) 0 0 0 (-1) 0 = _ := e1
  have e2 : f_X10_readSum 40 (nI N) 0 (-1) m_badKind 0 mt m_newCode m_newOf 0 = _ := e2
  rw [if_pos h, b2_s, if_pos rfl]
  unfold f_X7_open f_X7_empty f_X1_read
  rw [b5_s, e1, b6_s, if_neg (Int32.not_lt.mpr (nI_pos' (by omega))), if_neg (by rw [nI_ltJ (by omega) (by omega)]; omega), if_neg (by rw [nI_ltJ (by omega) (by omega)]; omega)]
  unfold f_X10_law_30
  rw [m_may1, b3_s, if_neg (show ¬ (1 : Int32) = 0 by decide)]
  unfold f_X10_begins
  rw [b6_s, e2, b7_s]
  unfold f_X7_needEnd f_X7_isSound f_X7_answer
  cases s1 with
  | inr x =>
    obtain ⟨k, f⟩ := x
    obtain ⟨g1, g3, gf, rfl, rfl, rfl, rfl, q3, hq3, rfl⟩ := hS1
    have hk := ne0 g1 g3
    refine Or.inr ⟨0, nI k - 10, x_misused, 0, nI N, ca1, cs1, nI k, nI f, code1, len1, m_refused, nI N, nI q3, nI f, nI k, op1, nc1, no1, ncs1, ?_, ?_, Or.inl rfl, hc, Nat.zero_le _⟩
    · rw [c_isAtEndF hk, b3_s, if_neg (show ¬ (1 : Int32) = 0 by decide), b4_s, b6_s, b1_s, if_neg hk, b1_s, if_pos rfl, b1_s]; rfl
    · unfold f_X10_law_77 f_X10_result
      rw [m_fine0 (by omega), b1_s, if_pos rfl, b1_s, if_pos rfl, b2_s, ite_M (by omega)]
      rfl
  | inl r =>
    obtain ⟨rfl, rfl, rfl, ⟨p, hp, rfl, ep⟩, q, hq, rfl, eq⟩ := hS1
    have hend := c_isAtEnd (cs := cs1) hx hp
    have hmore := m_isMore hx hq
    rw [ep] at hend
    rw [eq] at hmore
    have hr := sk_le (tx := tx) hp
    rw [ep] at hr
    rw [hend, b3_s, m_fine1, b1_s, if_neg (show ¬ (1 : Int32) = 0 by decide), hmore, b2_s]
    by_cases hrN : r < N
    · rw [if_pos hrN, if_pos hrN, if_pos rfl, if_neg (show ¬ (1 : Int32) = 0 by decide), show f_X7_blame (nI r) 0 (-1) 1 = some (1, nI r) from rfl, b2_s, b4_s, b6_s, b1_s, if_neg (show ¬ (1 : Int32) = 0 by decide), b1_s, if_pos rfl, b1_s, show f_X10_wrong (-1) mk1 1 (nI r) = some (nI r, 1) from rfl, b2_s]
      refine Or.inr ⟨0, 1 - 10, x_misused, 0, nI N, nI r, nI r, 1, nI r, code1, len1, m_refused, nI N, nI r, nI r, 1, op1, nc1, no1, ncs1, rfl, ?_, Or.inl rfl, hc, Nat.zero_le _⟩
      unfold f_X10_law_77 f_X10_result
      rw [m_fine0 (by omega), b1_s, if_pos rfl, b2_s, ite_M (by omega)]
      rfl
    · obtain ⟨g1, g2, t, g3, g4, g5⟩ := hR1 r rfl
      have g3 : c = t := g3
      subst g3
      have hch := g5 0 (by decide)
      have hlen : c.length ≤ 150 := by have := g4 _ rfl; omega
      have hpos : 0 < c.length := by
        cases c with
        | nil => have hch : (0 : Nat) = 1 := hch; omega
        | cons a b => exact Nat.succ_pos _
      obtain ⟨hc1, rfl, hc3⟩ := g2
      obtain ⟨mc, e5, q5⟩ := m_copies (v := nc1) (w := m_code) (N := c.length) (a := 150) (b := 150) hlen hlen (by omega)
      obtain ⟨mo, e6, q6⟩ := m_copies (v := no1) (w := m_ofCode) (N := c.length) (a := 150) (b := 150) hlen hlen (by omega)
      rw [if_neg hrN, if_neg hrN, if_neg (show ¬ (1 : Int32) = 0 by decide), if_pos rfl, b4_s, b6_s, b1_s, if_pos rfl, b1_s, if_neg (show ¬ (1 : Int32) = 0 by decide)]
      refine Or.inl ⟨nI N, nI r, nI r, 0, -1, code1, len1, nI N, nI r, mk1, op1, nc1, no1, mc, mo, nI c.length, c, rfl, ?_, hc1, Or.inl ⟨rfl, hpos, fun k hk => ?_⟩, chT_chk c 0 hch, hlen⟩
      · unfold f_X10_law_77 f_X10_result
        rw [m_fine1, b1_s, if_neg (show ¬ (1 : Int32) = 0 by decide), b2_s, if_pos rfl, e5, b1_s, e6, b1_s]
      · rw [q5, q6, if_pos hk, if_pos hk]
        exact hc3 k hk
end KW
