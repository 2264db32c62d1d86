/-! ===== garden ===== -/
section TG
variable {π : Pg} {tb mt : Nat → Int32} {x_missing x_misused : Int32}
variable {nb nl nr be le re now bk l_code : Nat → Int32} {nB nL nR bs ls rs cds wk rst wr im l_length x_imageMany : Int32} {i_v : Nat → Option Nat}
theorem c_plain : ∃ lc, f_X1_makePlain l_code l_length = some (lc, 5) ∧ RLc plainL lc 5 := by
  refine ⟨upd (upd (upd (upd (upd l_code 0 (-1)) 1 4) 2 (-11)) 3 1) 4 (-8), rfl, rfl, fun k hk => ?_⟩
  have hk : k < 5 := hk
  have hc : k = 0 ∨ k = 1 ∨ k = 2 ∨ k = 3 ∨ k = 4 := by omega
  rcases hc with rfl | rfl | rfl | rfl | rfl <;> rfl
theorem c_forget : ∃ iv, f_X9_forgetImages x_imageMany i_v = some (0, iv) ∧ ∀ i, i < 3 → iv i = none := by
  unfold f_X9_forgetImages
  obtain ⟨c, e, q⟩ := loopR (A := Unit) (C := Nat → Option Nat) (F := fun m c x => f_X9_forgetImages_2 m x x_imageMany c) (B := 3) (step := fun _ _ => ()) (fin := fun c => some (0, c)) (Q := fun k _ c => ∀ i, i < k → c i = none) (fun m c => by
      show f_X9_forgetImages_2 (m + 1) (nI 3) x_imageMany c = _
      rw [f_X9_forgetImages_2, if_pos (by decide)]) (fun m _ c k hk hc => by
      refine ⟨va_up c k none, ?_, fun i hi => ?_⟩
      · show f_X9_forgetImages_2 (m + 1) (nI k) x_imageMany c = f_X9_forgetImages_2 m (nI (k + 1)) x_imageMany _
        rw [f_X9_forgetImages_2, if_neg (by rw [show (3 : Int32) = nI 3 from rfl, nI_leJ (by omega) (by omega)]; omega), ixb_nI (by omega) (by omega), if_pos rfl, nI_cl (by omega), nI_1]
      · show (if i = k then none else c i) = none
        by_cases h : i = k
        · rw [if_pos h]
        · rw [if_neg h]; exact hc i (by omega)) 3 0 FU () i_v (by omega) (FU_gt (by omega)) (fun i hi => absurd hi (Nat.not_lt_zero _))
  exact ⟨c, e, q⟩
theorem RPm_congr {B L R : Int32} {a b c a2 b2 c2 : Nat → Int32} (ok : OkP π) (h : RPm π B L R a b c) (ha : ∀ i, i < 6 → a2 i = a i) (hb : ∀ i, i < 60 → b2 i = b i) (hc : ∀ i, i < 5 → c2 i = c i) : RPm π B L R a2 b2 c2 := by
  have o1 := ok.1
  have o2 := ok.2.1
  have o3 := ok.2.2.1
  obtain ⟨h1, h2, h3, h4, h5, h6⟩ := h
  refine ⟨h1, h2, h3, fun i hi => by rw [ha i (by omega)]; exact h4 i hi, fun i hi => ?_, fun i hi => by rw [hc i (by omega)]; exact h6 i hi⟩
  have h8 := (ok.2.2.2.2.1 i hi).2.2.1
  exact ⟨by rw [hb _ (by omega)]; exact (h5 i hi).1, by rw [hb _ (by omega)]; exact (h5 i hi).2.1, fun k hk => by rw [hb _ (by omega)]; exact (h5 i hi).2.2 k hk⟩
theorem m_sets (ok : OkP π) (hQ : RPm π nB nL nR nb nl nr) : ∃ be' le' re' now' bk', f_X10_sets nb nl nr be le re nB nL nR bs ls rs cds wk rst now bk wr im = some (be', le', re', nB, nL, nR, 0, 0, 0, now', bk', 0, 0) ∧ RPm π nB nL nR be' le' re' ∧ RM π (oBegin π) now' ∧ ∀ b, b < 6 → bk' b = -1 := by
  have o1 := ok.1
  have o2 := ok.2.1
  have o3 := ok.2.2.1
  obtain ⟨be', e1, q1⟩ := m_copies (v := nb) (w := be) (N := 6) (a := 6) (b := 6) (Nat.le_refl _) (Nat.le_refl _) (by decide)
  obtain ⟨le', e2, q2⟩ := m_copies (v := nl) (w := le) (N := 60) (a := 60) (b := 60) (Nat.le_refl _) (Nat.le_refl _) (by decide)
  obtain ⟨re', e3, q3⟩ := m_copies (v := nr) (w := re) (N := 5) (a := 5) (b := 5) (Nat.le_refl _) (Nat.le_refl _) (by decide)
  have hR2 : RPm π nB nL nR be' le' re' := RPm_congr ok hQ (fun i hi => by rw [q1, if_pos hi]) (fun i hi => by rw [q2, if_pos hi]) (fun i hi => by rw [q3, if_pos hi])
  obtain ⟨bk', e4, q4⟩ := loopR (A := Unit) (C := Nat → Int32) (F := fun m c x => f_X10_sets_92 nb nl nr nB nL nR m x be' le' re' nB nL nR 0 0 0 now c 0 0) (B := 6) (step := fun _ _ => ()) (fin := fun c => f_X10_sets_113 nb nl nr nB nL nR FU 0 be' le' re' nB nL nR 0 0 0 now c 0 0) (Q := fun k _ c => ∀ b, b < k → c b = -1) (fun m c => by
      show f_X10_sets_92 nb nl nr nB nL nR (m + 1) (nI 6) be' le' re' nB nL nR 0 0 0 now c 0 0 = _
      rw [f_X10_sets_92, if_pos (by decide)]) (fun m _ c k hk hc => by
      refine ⟨upd c k (-1), ?_, fun b hb => ?_⟩
      · show f_X10_sets_92 nb nl nr nB nL nR (m + 1) (nI k) be' le' re' nB nL nR 0 0 0 now c 0 0 = f_X10_sets_92 nb nl nr nB nL nR m (nI (k + 1)) be' le' re' nB nL nR 0 0 0 now _ 0 0
        rw [f_X10_sets_92, if_neg (by rw [show (6 : Int32) = nI 6 from rfl, nI_leJ (by omega) (by omega)]; omega), ixb_nI (by omega) (by omega), if_pos rfl, nI_cl (by omega), nI_1]
      · by_cases h : b = k
        · rw [h, upd_s]
        · rw [upd_n h]; exact hc b (by omega)) 6 0 FU () bk (by omega) (FU_gt (by omega)) (fun b hb => absurd hb (Nat.not_lt_zero _))
  obtain ⟨now1, e5, q5⟩ := loopR (A := Unit) (C := Nat → Int32) (F := fun m c x => f_X10_sets_113 nb nl nr nB nL nR m x be' le' re' nB nL nR 0 0 0 c bk' 0 0) (B := 165) (step := fun _ _ => ()) (fin := fun c => f_X10_sets_135 nb nl nr nB nL nR FU 0 be' le' re' nB nL nR 0 0 0 c bk' 0 0) (Q := fun k _ c => ∀ b, b < k → c b = 0) (fun m c => by
      show f_X10_sets_113 nb nl nr nB nL nR (m + 1) (nI 165) be' le' re' nB nL nR 0 0 0 c bk' 0 0 = _
      rw [f_X10_sets_113, if_pos (by decide)]) (fun m _ c k hk hc => by
      refine ⟨upd c k 0, ?_, fun b hb => ?_⟩
      · show f_X10_sets_113 nb nl nr nB nL nR (m + 1) (nI k) be' le' re' nB nL nR 0 0 0 c bk' 0 0 = f_X10_sets_113 nb nl nr nB nL nR m (nI (k + 1)) be' le' re' nB nL nR 0 0 0 _ bk' 0 0
        rw [f_X10_sets_113, if_neg (by rw [show (165 : Int32) = nI 165 from rfl, nI_leJ (by omega) (by omega)]; omega), ixb_nI (by omega) (by omega), if_pos rfl, nI_cl (by omega), nI_1]
      · by_cases h : b = k
        · rw [h, upd_s]
        · rw [upd_n h]; exact hc b (by omega)) 165 0 FU () now (by omega) (FU_gt (by omega)) (fun b hb => absurd hb (Nat.not_lt_zero _))
  obtain ⟨now2, e6, q6⟩ := loopR (A := Unit) (C := Nat → Int32) (F := fun m c x => f_X10_sets_135 nb nl nr nB nL nR m x be' le' re' nB nL nR 0 0 0 c bk' 0 0) (B := gR π) (step := fun _ _ => ()) (fin := fun c => some (be', le', re', nB, nL, nR, 0, 0, 0, c, bk', 0, 0)) (Q := fun k _ c => ∀ b, b < 165 → c b = if 90 ≤ b ∧ b < 90 + k then re' (b - 90) else 0) (fun m c => by
      show f_X10_sets_135 nb nl nr nB nL nR (m + 1) (nI (gR π)) be' le' re' nB nL nR 0 0 0 c bk' 0 0 = _
      rw [f_X10_sets_135, hQ.2.2.1, if_pos (Int32.le_refl _)]) (fun m _ c k hk hc => by
      refine ⟨upd c (90 + k) (re' k), ?_, fun b hb => ?_⟩
      · show f_X10_sets_135 nb nl nr nB nL nR (m + 1) (nI k) be' le' re' nB nL nR 0 0 0 c bk' 0 0 = f_X10_sets_135 nb nl nr nB nL nR m (nI (k + 1)) be' le' re' nB nL nR 0 0 0 _ bk' 0 0
        rw [f_X10_sets_135, if_neg (by rw [hQ.2.2.1, nI_leJ (by omega) (by omega)]; omega), ixb_nI (by omega) (by omega), if_pos rfl, show (90 : Int32) + nI k = nI (90 + k) from nI_add 90 k, ixb_nI (by omega) (by omega), if_pos rfl, nI_cl (by omega), nI_cl (by omega), nI_1]
      · by_cases h : b = 90 + k
        · rw [h, upd_s, if_pos ⟨by omega, by omega⟩, show 90 + k - 90 = k by omega]
        · rw [upd_n h, hc b hb]
          by_cases h2 : 90 ≤ b ∧ b < 90 + k
          · rw [if_pos h2, if_pos ⟨h2.1, by omega⟩]
          · rw [if_neg h2, if_neg (fun h9 => h2 ⟨h9.1, by omega⟩)]) (gR π) 0 FU () now1 (by omega) (FU_gt (by omega)) (fun b hb => by rw [if_neg (by omega)]; exact q5 b hb)
  refine ⟨be', le', re', now2, bk', ?_, hR2, ?_, q4⟩
  · unfold f_X10_sets
    rw [show (6 : Int32) = nI 6 from rfl, show (60 : Int32) = nI 60 from rfl, show (5 : Int32) = nI 5 from rfl, e1, b1_s, e2, b1_s, e3, b1_s]
    exact e4.trans (e5.trans e6)
  · have hz : ∀ b, b < 165 → ¬ (90 ≤ b ∧ b < 90 + gR π) → now2 b = 0 := fun b hb hn => by rw [q6 b hb, if_neg hn]
    refine ⟨hz 164 (by omega) (by omega), hz 161 (by omega) (by omega), hz 162 (by omega) (by omega), hz 163 (by omega) (by omega), fun l hl => hz _ (by omega) (by omega), hz 160 (by omega) (by omega), fun l hl => hz _ (by omega) (by omega), fun r hr => ?_, fun r hr => hz _ (by omega) (by omega), fun b hb => hz _ (by omega) (by omega), fun b k hb hk => absurd hk (Nat.not_lt_zero _), fun k hk => absurd hk (Nat.not_lt_zero _)⟩
    rw [q6 _ (by omega), if_pos ⟨by omega, by omega⟩, show 90 + r - 90 = r by omega]
    exact hR2.2.2.2.2.2 r hr
theorem k_garden {x_latest : Value} {x_refusedSteps t_end t_at t_start t_faultKind t_faultPlace s_year s_wet s_lost s_eaten s_tied s_ripeMany p2_beds p2_letters p2_readers b_lines m_thrown m_size m_at m_bad m_badKind m_opens m_faultAt : Int32} {s_gone s_place s_heard s_many s_lying s_ripe p2_far p2_drain p2_length p2_words p2_home b_last m_refused : Nat → Int32} {T : Nat} (hT : RT T tb mt) (hb : ByT tb) (hfp : t_faultPlace = m_faultAt) (hc : RC x_missing x_misused m_refused) (n1 : Int32) :
    (∃ r π' te ta ts tk tp go pl he ma iv pb ql pr pf pd pn pw ph lc bl sz at_ mk op nb' nl' nr' be' le' re' nB' nL' nR' now' bk', f_X9_garden x_latest x_imageMany x_refusedSteps x_misused tb (nI T) t_end t_at t_start t_faultKind t_faultPlace s_year s_wet s_lost s_eaten s_tied s_ripeMany s_gone s_place s_heard s_many i_v p2_beds p2_letters p2_readers p2_far p2_drain p2_length p2_words p2_home l_code l_length b_last b_lines n1 = some (0, r, Value.null, 0, 0, x_misused, 0, te, ta, ts, tk, tp, 0, 0, 0, 0, 0, 0, go, pl, he, ma, iv, pb, ql, pr, pf, pd, pn, pw, ph, lc, 5, bl, 0, true) ∧ f_X10_garden m_thrown m_refused (nI T) m_size m_at m_bad m_badKind m_opens m_faultAt mt nb nl nr be le re nB nL nR bs ls rs cds wk rst now bk wr im n1 = some (r, 0, m_refused, 0, sz, at_, -1, mk, op, tp, nb', nl', nr', be', le', re', nB', nL', nR', nB', nL', nR', 0, 0, 0, now', bk', 0, 0) ∧ OkP π' ∧ RPc π' (pb, ql, pr, pf, pd, pn, pw, ph) ∧ RPm π' nB' nL' nR' be' le' re' ∧ RS π' (oBegin π') (0, 0, 0, 0, 0, 0, go, pl, he, ma, s_lying, s_ripe) ∧ RM π' (oBegin π') now' ∧ RLc plainL lc 5 ∧ (∀ i, i < 3 → iv i = none) ∧ (∀ b, b < 6 → bl b = -1 ∧ bk' b = -1)) ∨
    (∃ ex r mu T2 te ta ts tk tp pb ql pr pf pd pn pw ph rf sz at_ bad mk op nb' nl' nr' nB' nL' nR', f_X9_garden x_latest x_imageMany x_refusedSteps x_misused tb (nI T) t_end t_at t_start t_faultKind t_faultPlace s_year s_wet s_lost s_eaten s_tied s_ripeMany s_gone s_place s_heard s_many i_v p2_beds p2_letters p2_readers p2_far p2_drain p2_length p2_words p2_home l_code l_length b_last b_lines n1 = some (ex, r, x_latest, x_imageMany, x_refusedSteps, mu, nI T2, te, ta, ts, tk, tp, s_year, s_wet, s_lost, s_eaten, s_tied, s_ripeMany, s_gone, s_place, s_heard, s_many, i_v, pb, ql, pr, pf, pd, pn, pw, ph, l_code, l_length, b_last, b_lines, false) ∧ f_X10_garden m_thrown m_refused (nI T) m_size m_at m_bad m_badKind m_opens m_faultAt mt nb nl nr be le re nB nL nR bs ls rs cds wk rst now bk wr im n1 = some (r, if ex = 0 then 0 else 1, rf, nI T2, sz, at_, bad, mk, op, tp, nb', nl', nr', be, le, re, nB', nL', nR', bs, ls, rs, cds, wk, rst, now, bk, wr, im) ∧ (ex = 0 ∨ ex = 2) ∧ RC x_missing mu rf ∧ T2 ≤ T) := by
  have h600 := hT.1
  unfold f_X9_garden f_X10_garden
  rw [show (600 : Int32) = nI 600 from rfl, c_text (by omega) (by omega)]
  by_cases h : 0 ≤ n1 ∧ n1 ≤ nI (min 600 T)
  case neg =>
    refine Or.inr ⟨2, 0, x_misused + 1, T, t_end, t_at, t_start, t_faultKind, t_faultPlace, p2_beds, p2_letters, p2_readers, p2_far, p2_drain, p2_length, p2_words, p2_home, upd m_refused 1 (m_refused 1 + 1), m_size, m_at, m_bad, m_badKind, m_opens, nb, nl, nr, nB, nL, nR, ?_, ?_, Or.inr rfl, rc_mu hc, Nat.le_refl _⟩
    · rw [if_neg h]; rfl
    · rw [hfp]
      by_cases h1 : n1 < 0
      · rw [if_pos h1]; rfl
      · rw [if_neg h1]
        by_cases h2 : nI T < n1
        · rw [if_pos h2]; rfl
        · obtain ⟨N, hN, rfl⟩ := inN (B := T) (by omega) (Int32.not_lt.mp h1) (Int32.not_lt.mp h2)
          exact absurd ⟨nI_pos' (by omega), (nI_leI (by omega) (by omega)).mpr (by omega)⟩ h
  obtain ⟨N, hN, rfl⟩ := inN (B := min 600 T) (by omega) h.1 h.2
  obtain ⟨tx, hx⟩ := text_of hT hb (show N ≤ T by omega)
  have ok0 : OkP ((((0, 0, 0), fun _ => 0, fun _ => 0, fun _ => 0, fun _ _ => 0, fun _ => 0) : Pg)) := ⟨Nat.zero_le _, Nat.zero_le _, Nat.zero_le _, fun _ hb => absurd hb (Nat.not_lt_zero _), fun _ hb => absurd hb (Nat.not_lt_zero _), fun _ hb => absurd hb (Nat.not_lt_zero _)⟩
  obtain ⟨s', π', b1, l1, r1, pf1, pd1, pl1, pw1, ph1, ca1, cs1, ck1, cp1, ma1, mb1, mk1, nb1, nl1, nr1, nB1, nL1, nR1, f1, f2, f3, f4⟩ := L_garden (n1 := nI N) (th := 0) (tp := 0) (op := 0) (fa := -1) (bs := bs) (ls := ls) (rs := rs) (cds := cds) (wk := wk) (rst := rst) (wr := wr) (im := im) (rf := m_refused) (be := be) (le := le) (re := re) (now := now) (bk := bk) hx 17 ((0, 0, 0), fun _ => 0, fun _ => 0, fun _ => 0, fun _ _ => 0, fun _ => 0) FU FU 0 0 (sk tx N 0) 0 0 0 0 m_badKind 0 0 0 p2_far p2_drain p2_length p2_words p2_home nb nl nr rfl (FU_gt (by omega)) (FU_gt (by omega)) (Nat.zero_le _) (Nat.zero_le _) rfl rfl ok0 ⟨rfl, rfl, rfl, fun _ hb => absurd hb (Nat.not_lt_zero _), fun _ hb => absurd hb (Nat.not_lt_zero _), fun _ hb => absurd hb (Nat.not_lt_zero _)⟩ ⟨rfl, rfl, rfl, fun _ hb => absurd hb (Nat.not_lt_zero _), fun _ hb => absurd hb (Nat.not_lt_zero _), fun _ hb => absurd hb (Nat.not_lt_zero _)⟩
  have ec : f_X2_read p2_beds p2_letters p2_readers p2_far p2_drain p2_length p2_words p2_home tb (nI N) 0 0 0 (-1) = some (b1, l1, r1, pf1, pd1, pl1, pw1, ph1, ca1, cs1, ck1, cp1) := f1
  have em : f_X10_garden_23 mt (nI N) 1 0 m_refused (nI T) m_size m_at m_bad m_badKind m_opens m_faultAt nb nl nr be le re nB nL nR bs ls rs cds wk rst now bk wr im = f_X10_garden_136 mt (nI N) 0 m_refused 0 (nI N) ma1 mb1 mk1 0 (-1) nb1 nl1 nr1 be le re nB1 nL1 nR1 bs ls rs cds wk rst now bk wr im := by
    unfold f_X10_garden_23
    rw [m_may1, b3_s, if_neg (show ¬ (1 : Int32) = 0 by decide)]
    unfold f_X10_begins f_X10_clears
    rw [b6_s, b3_s]
    exact f2
  rw [if_pos h, b2_s, if_pos rfl]
  unfold f_X7_open f_X7_empty
  rw [b5_s, ec, b12_s, b1_s, if_neg (Int32.not_lt.mpr (nI_pos' (by omega))), if_neg (by rw [nI_ltJ (by omega) (by omega)]; omega), em]
  unfold f_X10_garden_136 f_X10_result f_X7_isSound f_X7_answer
  cases s' with
  | inl r =>
    obtain ⟨rfl, rfl, rfl, -, -⟩ := f3
    obtain ⟨hP, hQ, ok⟩ := f4 r rfl
    obtain ⟨lc, g1, g2⟩ := c_plain (l_code := l_code) (l_length := l_length)
    obtain ⟨bl, g3, g4⟩ := c_clear (b_last := b_last) (b_lines := b_lines)
    obtain ⟨iv, g5, g6⟩ := c_forget (x_imageMany := x_imageMany) (i_v := i_v)
    obtain ⟨go, pl, he, ma, g7, g8⟩ := c_begin (s_year := s_year) (s_wet := s_wet) (s_lost := s_lost) (s_eaten := s_eaten) (s_tied := s_tied) (s_ripeMany := s_ripeMany) (s_gone := s_gone) (s_place := s_place) (s_heard := s_heard) (s_many := s_many) (s_lying := s_lying) (s_ripe := s_ripe) hP ok
    obtain ⟨be', le', re', now', bk', g9, g10, g11, g12⟩ := m_sets (be := be) (le := le) (re := re) (bs := bs) (ls := ls) (rs := rs) (cds := cds) (wk := wk) (rst := rst) (now := now) (bk := bk) (wr := wr) (im := im) ok hQ
    refine Or.inl ⟨l1, π', nI N, ca1, cs1, 0, -1, go, pl, he, ma, iv, b1, l1, r1, pf1, pd1, pl1, pw1, ph1, lc, bl, nI N, ma1, mk1, 0, nb1, nl1, nr1, be', le', re', nB1, nL1, nR1, now', bk', ?_, ?_, ok, hP, g10, g8, g11, g2, g6, fun b hb => ⟨g4 b hb, g12 b hb⟩⟩
    · rw [if_pos rfl, b1_s, if_neg (show ¬ (1 : Int32) = 0 by decide), g1, b2_s, g3, b2_s, g5, b2_s, g7, b10_s]
    · rw [m_fine1, b1_s, if_neg (show ¬ (1 : Int32) = 0 by decide), b2_s, if_pos rfl, g9, b13_s, hQ.2.1, hP.2.1]
  | inr x =>
    obtain ⟨k, f⟩ := x
    obtain ⟨g1, g3, gf, rfl, rfl, rfl, rfl, q3, hq3, rfl⟩ := f3
    have hk := ne0 g1 g3
    have h6 := hx.1
    refine Or.inr ⟨0, nI k - 10, x_misused, 0, nI N, ca1, cs1, nI k, nI f, b1, l1, r1, pf1, pd1, pl1, pw1, ph1, m_refused, nI N, nI q3, nI f, nI k, 0, nb1, nl1, nr1, nB1, nL1, nR1, ?_, ?_, Or.inl rfl, hc, Nat.zero_le _⟩
    · rw [if_neg hk, b1_s, if_pos rfl, b1_s]; rfl
    · rw [m_fine0 (by omega), b1_s, if_pos rfl, b2_s, ite_M (by omega)]
      rfl
end TG
