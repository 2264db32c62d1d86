/-! ===== a garden is told: the loop ===== -/
section TF
variable {tx : Nat → Nat} {N : Nat} {tb mt : Nat → Int32} {ca cs ck cp ma mb : Int32}
theorem c_read17F {te x2 b l r a s k p : Int32} {pf pd pl pw ph : Nat → Int32} {m : Nat} (hk : k ≠ 0) : f_X2_read_17 tb te (m + 1) x2 b l r pf pd pl pw ph a s k p = some (b, l, r, pf, pd, pl, pw, ph, a, s, k, p) := by
  rw [f_X2_read_17, c_isAtEndF hk, b3_s, if_neg (show ¬ (1 : Int32) = 0 by decide)]
  by_cases h : (600 : Int32) ≤ x2
  · rw [if_pos h]
  · rw [if_neg h]
theorem L_garden {n1 th tp op fa bs ls rs cds wk rst wr im : Int32} {rf be le re now bk : Nat → Int32} (h : RTx tx N tb mt) : ∀ (d : Nat) (π : Pg) (m m2 p q r : Nat) (p_beds p_letters p_readers cs mk nB nL nR : Int32) (pf pd pl pw ph nb nl nr : Nat → Int32), gB π + gL π + gR π + d = 17 → d + 1 < m → d + 2 < m2 → p ≤ N → q ≤ N → sk tx N p = r → sk tx N q = r → OkP π → RPc π (p_beds, p_letters, p_readers, pf, pd, pl, pw, ph) → RPm π nB nL nR nb nl nr → ∃ s' π' b1 l1 r1 pf1 pd1 pl1 pw1 ph1 ca1 cs1 ck1 cp1 ma1 mb1 mk1 nb1 nl1 nr1 nB1 nL1 nR1, f_X2_read_17 tb (nI N) m (nI (gB π + gL π + gR π)) p_beds p_letters p_readers pf pd pl pw ph (nI p) cs 0 (-1) = some (b1, l1, r1, pf1, pd1, pl1, pw1, ph1, ca1, cs1, ck1, cp1) ∧ f_X10_garden_44 mt n1 m2 (nI (gB π + gL π + gR π)) th rf tp (nI N) (nI q) (-1) mk op fa nb nl nr be le re nB nL nR bs ls rs cds wk rst now bk wr im = f_X10_garden_136 mt n1 th rf tp (nI N) ma1 mb1 mk1 op fa nb1 nl1 nr1 be le re nB1 nL1 nR1 bs ls rs cds wk rst now bk wr im ∧ RT2 tx N s' ca1 ck1 cp1 ma1 mb1 mk1 ∧ ∀ r', s' = .inl r' → RPc π' (b1, l1, r1, pf1, pd1, pl1, pw1, ph1) ∧ RPm π' nB1 nL1 nR1 nb1 nl1 nr1 ∧ OkP π' := by
  have h6 := h.1
  have hmain : ∀ (d : Nat) (π : Pg) (m m2 p q r : Nat) (p_beds p_letters p_readers cs mk nB nL nR : Int32) (pf pd pl pw ph nb nl nr : Nat → Int32), gB π + gL π + gR π + d = 17 → d + 1 < m → d + 2 < m2 → p ≤ N → q ≤ N → sk tx N p = r → sk tx N q = r → OkP π → RPc π (p_beds, p_letters, p_readers, pf, pd, pl, pw, ph) → RPm π nB nL nR nb nl nr → (∀ (π' : Pg) (p q r : Nat) (p_beds p_letters p_readers cs mk nB nL nR : Int32) (pf pd pl pw ph nb nl nr : Nat → Int32), gB π' + gL π' + gR π' = gB π + gL π + gR π + 1 → p ≤ N → q ≤ N → sk tx N p = r → sk tx N q = r → OkP π' → RPc π' (p_beds, p_letters, p_readers, pf, pd, pl, pw, ph) → RPm π' nB nL nR nb nl nr → ∃ s' π9 b1 l1 r1 pf1 pd1 pl1 pw1 ph1 ca1 cs1 ck1 cp1 ma1 mb1 mk1 nb1 nl1 nr1 nB1 nL1 nR1, f_X2_read_17 tb (nI N) (m - 1) (nI (gB π' + gL π' + gR π')) p_beds p_letters p_readers pf pd pl pw ph (nI p) cs 0 (-1) = some (b1, l1, r1, pf1, pd1, pl1, pw1, ph1, ca1, cs1, ck1, cp1) ∧ f_X10_garden_44 mt n1 (m2 - 1) (nI (gB π' + gL π' + gR π')) th rf tp (nI N) (nI q) (-1) mk op fa nb nl nr be le re nB nL nR bs ls rs cds wk rst now bk wr im = f_X10_garden_136 mt n1 th rf tp (nI N) ma1 mb1 mk1 op fa nb1 nl1 nr1 be le re nB1 nL1 nR1 bs ls rs cds wk rst now bk wr im ∧ RT2 tx N s' ca1 ck1 cp1 ma1 mb1 mk1 ∧ ∀ r', s' = .inl r' → RPc π9 (b1, l1, r1, pf1, pd1, pl1, pw1, ph1) ∧ RPm π9 nB1 nL1 nR1 nb1 nl1 nr1 ∧ OkP π9) → ∃ s' π' b1 l1 r1 pf1 pd1 pl1 pw1 ph1 ca1 cs1 ck1 cp1 ma1 mb1 mk1 nb1 nl1 nr1 nB1 nL1 nR1, f_X2_read_17 tb (nI N) m (nI (gB π + gL π + gR π)) p_beds p_letters p_readers pf pd pl pw ph (nI p) cs 0 (-1) = some (b1, l1, r1, pf1, pd1, pl1, pw1, ph1, ca1, cs1, ck1, cp1) ∧ f_X10_garden_44 mt n1 m2 (nI (gB π + gL π + gR π)) th rf tp (nI N) (nI q) (-1) mk op fa nb nl nr be le re nB nL nR bs ls rs cds wk rst now bk wr im = f_X10_garden_136 mt n1 th rf tp (nI N) ma1 mb1 mk1 op fa nb1 nl1 nr1 be le re nB1 nL1 nR1 bs ls rs cds wk rst now bk wr im ∧ RT2 tx N s' ca1 ck1 cp1 ma1 mb1 mk1 ∧ ∀ r', s' = .inl r' → RPc π' (b1, l1, r1, pf1, pd1, pl1, pw1, ph1) ∧ RPm π' nB1 nL1 nR1 nb1 nl1 nr1 ∧ OkP π' := by
    intro d π m m2 p q r p_beds p_letters p_readers cs mk nB nL nR pf pd pl pw ph nb nl nr hd hm hm2 hp hq ep eq ok hP hQ hnext
    obtain ⟨m, rfl⟩ : ∃ i, m = i + 2 := ⟨m - 2, by omega⟩
    obtain ⟨m2, rfl⟩ : ∃ i, m2 = i + 2 := ⟨m2 - 2, by omega⟩
    have hrN := sk_le (tx := tx) hp
    have er : sk tx N r = r := by rw [← ep, sk_sk]
    have h600 : ¬ (600 : Int32) ≤ nI (gB π + gL π + gR π) := by rw [show (600 : Int32) = nI 600 from rfl, nI_leJ (by omega) (by omega)]; omega
    have hend := c_isAtEnd (cs := cs) h hp
    rw [ep] at hend
    by_cases hr : r < N
    case neg =>
      refine ⟨.inl r, π, p_beds, p_letters, p_readers, pf, pd, pl, pw, ph, nI r, nI r, 0, -1, nI r, -1, mk, nb, nl, nr, nB, nL, nR, ?_, ?_, ⟨rfl, rfl, rfl, ⟨r, by omega, rfl, er⟩, r, by omega, rfl, er⟩, fun _ _ => ⟨hP, hQ, ok⟩⟩
      · rw [f_X2_read_17, if_neg h600, hend, if_neg hr, b3_s, if_neg (show ¬ (1 : Int32) = 0 by decide)]
      · rw [f_X10_garden_44, m_fine1, b1_s, if_neg (show ¬ (1 : Int32) = 0 by decide), m_isMore h hq, b2_s, eq, if_neg hr, if_pos rfl]
    obtain ⟨s', π', b1, l1, r1, pf1, pd1, pl1, pw1, ph1, ca1, cs1, ck1, cp1, ca2, cs2, ck2, cp2, ma2, mb2, mk2, nb1, nl1, nr1, nB1, nL1, nR1, e1, e2, e3, e4, e5⟩ := g_iter (cs := nI r) (n1 := n1) (th := th) (tp := tp) (op := op) (fa := fa) (bs := bs) (ls := ls) (rs := rs) (cds := cds) (wk := wk) (rst := rst) (wr := wr) (im := im) (rf := rf) (be := be) (le := le) (re := re) (now := now) (bk := bk) (mk := mk) (m2 := m2) h ok hP hQ hq eq hr
    have ec : f_X2_read_17 tb (nI N) (m + 2) (nI (gB π + gL π + gR π)) p_beds p_letters p_readers pf pd pl pw ph (nI p) cs 0 (-1) = f_X2_read_17 tb (nI N) (m + 1) (nI (gB π + gL π + gR π + 1)) b1 l1 r1 pf1 pd1 pl1 pw1 ph1 ca2 cs2 ck2 cp2 := by
      rw [f_X2_read_17, if_neg h600, hend, if_pos hr, b3_s, if_pos rfl, e1, b12_s, e2, b4_s, nI_1]
    cases s' with
    | inr x =>
      have e5 := e5 x rfl
      have hk : ck2 ≠ 0 := by
        obtain ⟨k, f⟩ := x
        obtain ⟨g1, g3, gf, rfl, -⟩ := e3
        exact ne0 g1 g3
      exact ⟨.inr x, π, b1, l1, r1, pf1, pd1, pl1, pw1, ph1, ca2, cs2, ck2, cp2, ma2, mb2, mk2, nb1, nl1, nr1, nB1, nL1, nR1, ec.trans (c_read17F hk), e5, e3, fun _ hr => by cases hr⟩
    | inl r9 =>
      obtain ⟨g1, g2, g3, g4, g5⟩ := e4 r9 rfl
      obtain ⟨rfl, rfl, rfl, ⟨p9, hp9, rfl, ep9⟩, q9, hq9, rfl, eq9⟩ := e3
      obtain ⟨s9, π9, b9, l9, r9', pf9, pd9, pl9, pw9, ph9, ca9, cs9, ck9, cp9, ma9, mb9, mk9, nb9, nl9, nr9, nB9, nL9, nR9, f1, f2, f3, f4⟩ := hnext π' p9 q9 r9 b1 l1 r1 cs2 mk2 nB1 nL1 nR1 pf1 pd1 pl1 pw1 ph1 nb1 nl1 nr1 g5 hp9 hq9 ep9 eq9 g4 g2 g3
      rw [← g5] at ec
      exact ⟨s9, π9, b9, l9, r9', pf9, pd9, pl9, pw9, ph9, ca9, cs9, ck9, cp9, ma9, mb9, mk9, nb9, nl9, nr9, nB9, nL9, nR9, ec.trans f1, g1.trans f2, f3, f4⟩
  intro d
  induction d with
  | zero =>
    intro π m m2 p q r p_beds p_letters p_readers cs mk nB nL nR pf pd pl pw ph nb nl nr hd hm hm2 hp hq ep eq ok hP hQ
    refine hmain 0 π m m2 p q r p_beds p_letters p_readers cs mk nB nL nR pf pd pl pw ph nb nl nr hd hm hm2 hp hq ep eq ok hP hQ (fun π' p q r _ _ _ _ _ _ _ _ _ _ _ _ _ _ _ _ hs _ _ _ _ ok' _ _ => ?_)
    have o1 := ok'.1
    have o2 := ok'.2.1
    have o3 := ok'.2.2.1
    exact absurd hs (by omega)
  | succ d ih =>
    intro π m m2 p q r p_beds p_letters p_readers cs mk nB nL nR pf pd pl pw ph nb nl nr hd hm hm2 hp hq ep eq ok hP hQ
    exact hmain (d + 1) π m m2 p q r p_beds p_letters p_readers cs mk nB nL nR pf pd pl pw ph nb nl nr hd hm hm2 hp hq ep eq ok hP hQ (fun π' p q r b l r' cs mk nB nL nR pf pd pl pw ph nb nl nr hs hp hq ep eq ok' hP' hQ' => ih π' (m - 1) (m2 - 1) p q r b l r' cs mk nB nL nR pf pd pl pw ph nb nl nr (by omega) (by omega) (by omega) hp hq ep eq ok' hP' hQ')
end TF
