/-! ===== a garden is told: clause by clause ===== -/
section TE
variable {π : Pg} {tx : Nat → Nat} {N : Nat} {tb mt : Nat → Int32} {ca cs ck cp ma mb mk : Int32}
variable {p_beds p_letters p_readers : Int32} {pf pd pl pw ph nb nl nr : Nat → Int32} {nB nL nR : Int32}
theorem m_isRow {W : List Nat} (hW : okW W) : f_X10_isRow (wcode W) = some (if W = chs 0 ∨ W = chs 1 ∨ W = chs 2 then 1 else 0) := by
  obtain ⟨c0, c1, c2, -, -, -⟩ := chs_row
  unfold f_X10_isRow
  rw [m_of (by decide), b1_s, ite_w hW (by decide), m_of (by decide), b1_s, ite_w hW (by decide), m_of (by decide), b1_s, ite_w hW (by decide), c0, c1, c2]
  by_cases h0 : W = chs 0
  · rw [if_pos h0, if_pos (Or.inl h0)]
  · rw [if_neg h0]
    by_cases h1 : W = chs 1
    · rw [if_pos h1, if_pos (Or.inr (Or.inl h1))]
    · rw [if_neg h1]
      by_cases h2 : W = chs 2
      · rw [if_pos h2, if_pos (Or.inr (Or.inr h2))]
      · rw [if_neg h2, if_neg (fun h => by rcases h with h | h | h; exact h0 h; exact h1 h; exact h2 h)]
theorem m_isFull (ok : OkP π) (hQ : RPm π nB nL nR nb nl nr) {W : List Nat} (hW : okW W) : f_X10_isFull nB nL nR (wcode W) = some (if W = chs 0 then (if gB π = 6 then 1 else 0) else if W = chs 1 then (if gL π = 6 then 1 else 0) else if gR π = 5 then 1 else 0) := by
  obtain ⟨c0, c1, c2, -, -, -⟩ := chs_row
  have o1 := ok.1
  have o2 := ok.2.1
  have o3 := ok.2.2.1
  unfold f_X10_isFull
  rw [m_of (by decide), b1_s, ite_w hW (by decide), m_of (by decide), b1_s, ite_w hW (by decide), c0, c1, hQ.1, hQ.2.1, hQ.2.2.1, show (6 : Int32) = nI 6 from rfl, show (5 : Int32) = nI 5 from rfl, ite_eq (by omega) (by omega), ite_eq (by omega) (by omega), ite_eq (by omega) (by omega)]
  by_cases h0 : W = chs 0
  · rw [if_pos h0, if_pos h0]
    by_cases h : gB π = 6
    · rw [if_pos h, if_pos h]
    · rw [if_neg h, if_neg h]
  · rw [if_neg h0, if_neg h0]
    by_cases h1 : W = chs 1
    · rw [if_pos h1, if_pos h1]
      by_cases h : gL π = 6
      · rw [if_pos h, if_pos h]
      · rw [if_neg h, if_neg h]
    · rw [if_neg h1, if_neg h1]
      by_cases h : gR π = 5
      · rw [if_pos h, if_pos h]
      · rw [if_neg h, if_neg h]
theorem g_iter {n1 th tp op fa bs ls rs cds wk rst wr im : Int32} {rf be le re now bk : Nat → Int32} (h : RTx tx N tb mt) (ok : OkP π) (hP : RPc π (p_beds, p_letters, p_readers, pf, pd, pl, pw, ph)) (hQ : RPm π nB nL nR nb nl nr) {q r m2 : Nat} (hq : q ≤ N) (eq : sk tx N q = r) (hr : r < N) : ∃ s' π' b1 l1 r1 pf1 pd1 pl1 pw1 ph1 ca1 cs1 ck1 cp1 ca2 cs2 ck2 cp2 ma2 mb2 mk2 nb1 nl1 nr1 nB1 nL1 nR1, f_X2_readClause p_beds p_letters p_readers pf pd pl pw ph tb (nI N) (nI r) cs 0 (-1) = some (b1, l1, r1, pf1, pd1, pl1, pw1, ph1, ca1, cs1, ck1, cp1) ∧ f_X7_need tb (nI N) ca1 cs1 ck1 cp1 59 = some (ca2, cs2, ck2, cp2) ∧ RT2 tx N s' ca2 ck2 cp2 ma2 mb2 mk2 ∧ (∀ r', s' = .inl r' → f_X10_garden_44 mt n1 (m2 + 2) (nI (gB π + gL π + gR π)) th rf tp (nI N) (nI q) (-1) mk op fa nb nl nr be le re nB nL nR bs ls rs cds wk rst now bk wr im = f_X10_garden_44 mt n1 (m2 + 1) (nI (gB π' + gL π' + gR π')) th rf tp (nI N) ma2 mb2 mk2 op fa nb1 nl1 nr1 be le re nB1 nL1 nR1 bs ls rs cds wk rst now bk wr im ∧ RPc π' (b1, l1, r1, pf1, pd1, pl1, pw1, ph1) ∧ RPm π' nB1 nL1 nR1 nb1 nl1 nr1 ∧ OkP π' ∧ gB π' + gL π' + gR π' = gB π + gL π + gR π + 1) ∧ (∀ x, s' = .inr x → f_X10_garden_44 mt n1 (m2 + 2) (nI (gB π + gL π + gR π)) th rf tp (nI N) (nI q) (-1) mk op fa nb nl nr be le re nB nL nR bs ls rs cds wk rst now bk wr im = f_X10_garden_136 mt n1 th rf tp (nI N) ma2 mb2 mk2 op fa nb1 nl1 nr1 be le re nB1 nL1 nR1 bs ls rs cds wk rst now bk wr im) := by
  have h6 := h.1
  have o1 := ok.1
  have o2 := ok.2.1
  have o3 := ok.2.2.1
  have er : sk tx N r = r := by rw [← eq, sk_sk]
  have hW := wrd_ok tx N r
  have he := wrd_le (tx := tx) (N := N) (r := r) (by omega)
  obtain ⟨c0, c1, c2, d01, d02, d12⟩ := chs_row
  have hT : ∀ (ti : Nat) (st : Int32), ti < 35 → f_X7_takes_ tb (nI N) (nI r) st 0 ti = some (if wrd tx N r = chs ti then (1, nI (r + (chs ti).length), nI r) else (0, nI r, nI r)) := by
    intro ti st ht
    have := c_takesW (st := st) h ht (show r ≤ N by omega)
    rw [er] at this
    exact this
  have hx60 : ¬ nI (gB π + gL π + gR π) = 60 := by rw [show (60 : Int32) = nI 60 from rfl, nI_eq (by omega) (by omega)]; omega
  -- the model up to the word
  have em : ∀ b : Nat, f_X10_isRow (wcode (wrd tx N r)) = some (nI b) → f_X10_garden_44 mt n1 (m2 + 2) (nI (gB π + gL π + gR π)) th rf tp (nI N) (nI q) (-1) mk op fa nb nl nr be le re nB nL nR bs ls rs cds wk rst now bk wr im = (if nI b = 0 then f_X10_garden_136 mt n1 th rf tp (nI N) (nI r) (nI r) 1 op fa nb nl nr be le re nB nL nR bs ls rs cds wk rst now bk wr im else b1 (f_X10_isFull nB nL nR (wcode (wrd tx N r))) (fun v38 => if v38 = 0 then f_X10_garden_105 mt n1 (f_X10_garden_44 mt n1 (m2 + 1)) (nI (gB π + gL π + gR π)) (wcode (wrd tx N r)) th rf tp (nI N) (nI r) (-1) mk op fa nb nl nr be le re nB nL nR bs ls rs cds wk rst now bk wr im else f_X10_garden_136 mt n1 th rf tp (nI N) (nI r) (nI r) 3 op fa nb nl nr be le re nB nL nR bs ls rs cds wk rst now bk wr im)) := by
    intro b hb
    rw [f_X10_garden_44, m_fine1, b1_s, if_neg (show ¬ (1 : Int32) = 0 by decide), m_isMore h hq, b2_s, eq, if_pos hr, if_neg (show ¬ (1 : Int32) = 0 by decide), m_wordHere h (show r ≤ N by omega), b2_s, er, hb, b1_s, show f_X10_wrong (-1) mk 1 (nI r) = some (nI r, 1) from rfl, b2_s, m_g105F (by omega), if_neg hx60]
    unfold f_X10_garden_96
    rw [show f_X10_wrong (-1) mk 3 (nI r) = some (nI r, 3) from rfl, b2_s, m_g105F (by omega)]
  have eF : ∀ k : Nat, 1 ≤ k → k ≤ 3 → f_X2_readClause p_beds p_letters p_readers pf pd pl pw ph tb (nI N) (nI r) cs 0 (-1) = some (p_beds, p_letters, p_readers, pf, pd, pl, pw, ph, nI r, nI r, nI k, nI r) → False ∨ f_X7_need tb (nI N) (nI r) (nI r) (nI k) (nI r) 59 = some (nI r, nI r, nI k, nI r) := fun k hk1 hk3 _ => Or.inr (c_needF (ne0 hk1 hk3) (by decide))
  by_cases w0 : wrd tx N r = chs 0
  · have em := em 1 (by rw [m_isRow hW, if_pos (Or.inl w0)]; rfl)
    rw [if_neg (show ¬ nI 1 = 0 by decide), m_isFull ok hQ hW, if_pos w0, b1_s, ite_b] at em
    by_cases hb : gB π = 6
    · rw [if_pos hb] at em
      refine ⟨.inr (3, r), π, p_beds, p_letters, p_readers, pf, pd, pl, pw, ph, nI (r + (chs 0).length), nI r, nI 3, nI r, nI (r + (chs 0).length), nI r, nI 3, nI r, nI r, nI r, 3, nb, nl, nr, nB, nL, nR, ?_, c_needF (by decide) (by decide), rt_f (by omega) (by omega) (by omega) (by omega), fun _ hr => (by cases hr), fun _ _ => em⟩
      unfold f_X2_readClause f_X2_readBed
      rw [hT 0 _ (by decide), if_pos w0, b3_s, if_neg (show ¬ (1 : Int32) = 0 by decide), hP.1, show (6 : Int32) = nI 6 from rfl, ite_lt (by omega) (by omega), if_neg (by omega)]
      rfl
    · rw [if_neg hb] at em
      have hS := rt_at (tx := tx) (mk := mk) he
      obtain ⟨v, s1, ca1, cs1, ck1, cp1, ma1, mb1, mk1, e1, e2, hS1, ha1, hv1, -, -, -⟩ := L_num (cs := nI r) h (lo := 0) (B := 31) (by omega) (by omega) hS
      obtain ⟨s3, ca3, cs3, ck3, cp3, ma3, mb3, mk3, e5, e6, hS3, ha3, -⟩ := L_need (cs := cs1) h (c := 59) (by omega) (by omega) hS1
      have e1 : f_X7_number tb (nI N) (nI (r + (wrd tx N r).length)) (nI r) 0 (-1) 0 30 = _ := e1
      have e2 : f_X10_readNumber (nI N) (nI (r + (wrd tx N r).length)) (-1) mk mt 0 30 = _ := e2
      have e6 : f_X10_sign (nI N) ma1 mb1 mk1 mt 59 = _ := e6
      have ex : f_X10_garden_105 mt n1 (f_X10_garden_44 mt n1 (m2 + 1)) (nI (gB π + gL π + gR π)) (wcode (wrd tx N r)) th rf tp (nI N) (nI r) (-1) mk op fa nb nl nr be le re nB nL nR bs ls rs cds wk rst now bk wr im = f_X10_garden_44 mt n1 (m2 + 1) (nI (gB π + gL π + gR π + 1)) th rf tp (nI N) ma3 mb3 mk3 op fa (upd nb (gB π) (nI v)) nl nr be le re (nI (gB π + 1)) nL nR bs ls rs cds wk rst now bk wr im := by
        unfold f_X10_garden_105 f_X10_readRow
        rw [m_fine1, b1_s, if_neg (show ¬ (1 : Int32) = 0 by decide), m_pass h (by omega), b1_s, m_of (by decide), b1_s, ite_w hW (by decide), c0, if_pos w0, e2, b4_s, hQ.1, ixb_nI (by omega) (by omega), if_pos rfl, b9_s, nI_cl (by omega), nI_1, e6, b3_s, nI_1]
      refine ⟨s3, aBed π v, nI (gB π + 1), p_letters, p_readers, upd pf (gB π) (nI v), pd, pl, pw, ph, ca1, cs1, ck1, cp1, ca3, cs3, ck3, cp3, ma3, mb3, mk3, upd nb (gB π) (nI v), nl, nr, nI (gB π + 1), nL, nR, ?_, e5, hS3, fun r' hr' => ⟨?_, aBed_c hP, aBed_m hQ, aBed_ok ok (by omega) ?_, ?_⟩, fun x hx => ?_⟩
      · unfold f_X2_readClause f_X2_readBed
        rw [hT 0 _ (by decide), if_pos w0, b3_s, if_neg (show ¬ (1 : Int32) = 0 by decide), hP.1, show (6 : Int32) = nI 6 from rfl, ite_lt (by omega) (by omega), if_pos (by omega), ← w0, e1, b5_s, ixb_nI (by omega) (by omega), if_pos rfl, b6_s, nI_cl (by omega), nI_1]
      · rw [em, ex, show gB (aBed π v) + gL (aBed π v) + gR (aBed π v) = gB π + gL π + gR π + 1 by show gB π + 1 + gL π + gR π = _; omega]
      · cases s1 with
        | inr x => have := ha3.1 x rfl; rw [hr'] at this; cases this
        | inl r1 => have := (hv1 r1 rfl).2; omega
      · show gB π + 1 + gL π + gR π = _; omega
      · obtain ⟨k, f⟩ := x
        subst hx
        obtain ⟨g1, g3, gf, rfl, rfl, rfl, rfl, q3, hq3, rfl⟩ := hS3
        rw [em, ex, m_g44F (by omega)]
  · by_cases w1 : wrd tx N r = chs 1
    · have em := em 1 (by rw [m_isRow hW, if_pos (Or.inr (Or.inl w1))]; rfl)
      rw [if_neg (show ¬ nI 1 = 0 by decide), m_isFull ok hQ hW, if_neg w0, if_pos w1, b1_s, ite_b] at em
      by_cases hb : gL π = 6
      · rw [if_pos hb] at em
        refine ⟨.inr (3, r), π, p_beds, p_letters, p_readers, pf, pd, pl, pw, ph, nI (r + (chs 1).length), nI r, nI 3, nI r, nI (r + (chs 1).length), nI r, nI 3, nI r, nI r, nI r, 3, nb, nl, nr, nB, nL, nR, ?_, c_needF (by decide) (by decide), rt_f (by omega) (by omega) (by omega) (by omega), fun _ hr => (by cases hr), fun _ _ => em⟩
        unfold f_X2_readClause f_X2_readLetter
        rw [hT 0 _ (by decide), if_neg w0, b3_s, if_pos rfl, hT 1 _ (by decide), if_pos w1, b3_s, if_neg (show ¬ (1 : Int32) = 0 by decide), hP.2.1, show (6 : Int32) = nI 6 from rfl, ite_lt (by omega) (by omega), if_neg (by omega)]
        rfl
      · rw [if_neg hb] at em
        have hS := rt_at (tx := tx) (mk := mk) he
        obtain ⟨s3, pd', pl', pw', nl', L1, L2, ca1, cs1, ck1, cp1, ca3, cs3, ck3, cp3, ma1, mb1, mk1, ma3, mb3, mk3, e1, e5, e2, e6, hS3, ha3, hl3⟩ := L_letter (cs := nI r) h ok hP hQ (by omega) hS
        have ex : f_X10_garden_105 mt n1 (f_X10_garden_44 mt n1 (m2 + 1)) (nI (gB π + gL π + gR π)) (wcode (wrd tx N r)) th rf tp (nI N) (nI r) (-1) mk op fa nb nl nr be le re nB nL nR bs ls rs cds wk rst now bk wr im = f_X10_garden_44 mt n1 (m2 + 1) (nI (gB π + gL π + gR π + 1)) th rf tp (nI N) ma3 mb3 mk3 op fa nb nl' nr be le re nB L2 nR bs ls rs cds wk rst now bk wr im := by
          unfold f_X10_garden_105 f_X10_readRow
          rw [m_fine1, b1_s, if_neg (show ¬ (1 : Int32) = 0 by decide), m_pass h (by omega), b1_s, m_of (by decide), b1_s, ite_w hW (by decide), c0, if_neg w0, m_of (by decide), b1_s, ite_w hW (by decide), c1, if_pos w1, e2, b5_s, b9_s, e6, b3_s, nI_1]
        have ec : f_X2_readClause p_beds p_letters p_readers pf pd pl pw ph tb (nI N) (nI r) cs 0 (-1) = some (p_beds, L1, p_readers, pf, pd', pl', pw', ph, ca1, cs1, ck1, cp1) := by
          unfold f_X2_readClause
          rw [hT 0 _ (by decide), if_neg w0, b3_s, if_pos rfl, hT 1 _ (by decide), if_pos w1, b3_s, if_neg (show ¬ (1 : Int32) = 0 by decide), ← w1, e1, b8_s]
        cases s3 with
        | inr x =>
          refine ⟨.inr x, π, p_beds, L1, p_readers, pf, pd', pl', pw', ph, ca1, cs1, ck1, cp1, ca3, cs3, ck3, cp3, ma3, mb3, mk3, nb, nl', nr, nB, L2, nR, ec, e5, hS3, fun _ hr => (by cases hr), fun y _ => ?_⟩
          obtain ⟨k, f⟩ := x
          obtain ⟨g1, g3, gf, rfl, rfl, rfl, rfl, q3, hq3, rfl⟩ := hS3
          rw [em, ex, m_g44F (by omega)]
        | inl r3 =>
          obtain ⟨dd, nn, ww, k1, k2, k3⟩ := hl3 r3 rfl
          refine ⟨.inl r3, aLet π dd nn ww, p_beds, L1, p_readers, pf, pd', pl', pw', ph, ca1, cs1, ck1, cp1, ca3, cs3, ck3, cp3, ma3, mb3, mk3, nb, nl', nr, nB, L2, nR, ec, e5, hS3, fun r' hr' => ⟨?_, k1, k2, k3, ?_⟩, fun _ hx => by cases hx⟩
          · rw [em, ex, show gB (aLet π dd nn ww) + gL (aLet π dd nn ww) + gR (aLet π dd nn ww) = gB π + gL π + gR π + 1 by show gB π + (gL π + 1) + gR π = _; omega]
          · show gB π + (gL π + 1) + gR π = _; omega
    · by_cases w2 : wrd tx N r = chs 2
      · have em := em 1 (by rw [m_isRow hW, if_pos (Or.inr (Or.inr w2))]; rfl)
        rw [if_neg (show ¬ nI 1 = 0 by decide), m_isFull ok hQ hW, if_neg w0, if_neg w1, b1_s, ite_b] at em
        by_cases hb : gR π = 5
        · rw [if_pos hb] at em
          refine ⟨.inr (3, r), π, p_beds, p_letters, p_readers, pf, pd, pl, pw, ph, nI (r + (chs 2).length), nI r, nI 3, nI r, nI (r + (chs 2).length), nI r, nI 3, nI r, nI r, nI r, 3, nb, nl, nr, nB, nL, nR, ?_, c_needF (by decide) (by decide), rt_f (by omega) (by omega) (by omega) (by omega), fun _ hr => (by cases hr), fun _ _ => em⟩
          unfold f_X2_readClause f_X2_readReader
          rw [hT 0 _ (by decide), if_neg w0, b3_s, if_pos rfl, hT 1 _ (by decide), if_neg w1, b3_s, if_pos rfl, hT 2 _ (by decide), if_pos w2, b3_s, if_neg (show ¬ (1 : Int32) = 0 by decide), hP.2.2.1, show (5 : Int32) = nI 5 from rfl, ite_lt (by omega) (by omega), if_neg (by omega)]
          rfl
        · rw [if_neg hb] at em
          have hS := rt_at (tx := tx) (mk := mk) he
          obtain ⟨v, s1, ca1, cs1, ck1, cp1, ma1, mb1, mk1, e1, e2, hS1, ha1, hv1, -, -, -⟩ := L_num (cs := nI r) h (lo := 0) (B := gB π) (by omega) (by omega) hS
          obtain ⟨s3, ca3, cs3, ck3, cp3, ma3, mb3, mk3, e5, e6, hS3, ha3, -⟩ := L_need (cs := cs1) h (c := 59) (by omega) (by omega) hS1
          have e1 : f_X7_number tb (nI N) (nI (r + (wrd tx N r).length)) (nI r) 0 (-1) 0 (nI (gB π) - 1) = _ := e1
          have e2 : f_X10_readNumber (nI N) (nI (r + (wrd tx N r).length)) (-1) mk mt 0 (nI (gB π) - 1) = _ := e2
          have e6 : f_X10_sign (nI N) ma1 mb1 mk1 mt 59 = _ := e6
          have ex : f_X10_garden_105 mt n1 (f_X10_garden_44 mt n1 (m2 + 1)) (nI (gB π + gL π + gR π)) (wcode (wrd tx N r)) th rf tp (nI N) (nI r) (-1) mk op fa nb nl nr be le re nB nL nR bs ls rs cds wk rst now bk wr im = f_X10_garden_44 mt n1 (m2 + 1) (nI (gB π + gL π + gR π + 1)) th rf tp (nI N) ma3 mb3 mk3 op fa nb nl (upd nr (gR π) (nI v)) be le re nB nL (nI (gR π + 1)) bs ls rs cds wk rst now bk wr im := by
            unfold f_X10_garden_105 f_X10_readRow f_X10_readBedTold
            rw [m_fine1, b1_s, if_neg (show ¬ (1 : Int32) = 0 by decide), m_pass h (by omega), b1_s, m_of (by decide), b1_s, ite_w hW (by decide), c0, if_neg w0, m_of (by decide), b1_s, ite_w hW (by decide), c1, if_neg w1, hQ.1, e2, b4_s, b4_s, hQ.2.2.1, ixb_nI (by omega) (by omega), if_pos rfl, b9_s, nI_cl (by omega), nI_1, e6, b3_s, nI_1]
          refine ⟨s3, aRea π v, p_beds, p_letters, nI (gR π + 1), pf, pd, pl, pw, upd ph (gR π) (nI v), ca1, cs1, ck1, cp1, ca3, cs3, ck3, cp3, ma3, mb3, mk3, nb, nl, upd nr (gR π) (nI v), nB, nL, nI (gR π + 1), ?_, e5, hS3, fun r' hr' => ⟨?_, aRea_c hP, aRea_m hQ, aRea_ok ok (by omega) ?_, ?_⟩, fun x hx => ?_⟩
          · unfold f_X2_readClause f_X2_readReader
            rw [hT 0 _ (by decide), if_neg w0, b3_s, if_pos rfl, hT 1 _ (by decide), if_neg w1, b3_s, if_pos rfl, hT 2 _ (by decide), if_pos w2, b3_s, if_neg (show ¬ (1 : Int32) = 0 by decide), hP.2.2.1, show (5 : Int32) = nI 5 from rfl, ite_lt (by omega) (by omega), if_pos (by omega), ← w2, hP.1, e1, b5_s, ixb_nI (by omega) (by omega), if_pos rfl, b6_s, nI_cl (by omega), nI_1]
          · rw [em, ex, show gB (aRea π v) + gL (aRea π v) + gR (aRea π v) = gB π + gL π + gR π + 1 by show gB π + gL π + (gR π + 1) = _; omega]
          · cases s1 with
            | inr x => have := ha3.1 x rfl; rw [hr'] at this; cases this
            | inl r1 => exact (hv1 r1 rfl).2
          · show gB π + gL π + (gR π + 1) = _; omega
          · obtain ⟨k, f⟩ := x
            subst hx
            obtain ⟨g1, g3, gf, rfl, rfl, rfl, rfl, q3, hq3, rfl⟩ := hS3
            rw [em, ex, m_g44F (by omega)]
      · have em := em 0 (by rw [m_isRow hW, if_neg (fun h => by rcases h with h | h | h; exact w0 h; exact w1 h; exact w2 h)]; rfl)
        rw [if_pos (show nI 0 = 0 from rfl)] at em
        refine ⟨.inr (1, r), π, p_beds, p_letters, p_readers, pf, pd, pl, pw, ph, nI r, nI r, nI 1, nI r, nI r, nI r, nI 1, nI r, nI r, nI r, 1, nb, nl, nr, nB, nL, nR, ?_, c_needF (by decide) (by decide), rt_f (by omega) (by omega) (by omega) (by omega), fun _ hr => (by cases hr), fun _ _ => em⟩
        unfold f_X2_readClause
        rw [hT 0 _ (by decide), if_neg w0, b3_s, if_pos rfl, hT 1 _ (by decide), if_neg w1, b3_s, if_pos rfl, hT 2 _ (by decide), if_neg w2, b3_s, if_pos rfl]
        rfl
end TE
