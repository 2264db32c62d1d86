/-! ===== a work's text: a step ===== -/
section WU
variable {π : Pg} {tx : Nat → Nat} {N : Nat} {tb mt : Nat → Int32} {ca cs ma mk : Int32} {K F S P : Nat → Int32} {p_beds p_letters p_readers m_beds m_letters m_readers : Int32}
theorem b8_id {A B C D E F G H : Type} (X : Option (A × B × C × D × E × F × G × H)) : b8 X (fun a b c d e f g h => some (a, b, c, d, e, f, g, h)) = X := by cases X <;> rfl
theorem L_step (h : RTx tx N tb mt) (hN : N ≤ 150) (ok : OkP π) (hp1 : p_beds = nI (gB π)) (hp2 : p_letters = nI (gL π)) (hp3 : p_readers = nI (gR π)) (hq1 : m_beds = nI (gB π)) (hq2 : m_letters = nI (gL π)) (hq3 : m_readers = nI (gR π)) {n o D E r ci mi : Nat} (hci : ci ≤ r) (hmi : mi ≤ r) (hS : RT2 tx N (.inl r) ca 0 (-1) ma (-1) mk) (hA : wrd tx N r = chs 18 → PSr π tx N tb n o r ci mi K F S P (f_X8_readAgain D K F S (nI ci) tb (nI N) (nI (r + 5)) (nI r) 0 (-1) p_beds p_letters p_readers (nI o)) (b6 (f_X10_readAgain E (nI N) (nI r) (-1) mk (nI o) mt m_beds m_letters m_readers P (nI mi)) (fun c18 c19 c20 c21 c22 c23 => f_X10_readStep_74 (f_X10_readStep E) (f_X10_readAgain E) (nI N) mt m_beds m_letters m_readers c18 c19 c20 c21 c22 c23))) : PSr π tx N tb n o r ci mi K F S P (f_X8_readStep (D + 1) K F S (nI ci) tb (nI N) ca cs 0 (-1) p_beds p_letters p_readers (nI o)) (f_X10_readStep (E + 1) (nI N) ma (-1) mk (nI o) mt m_beds m_letters m_readers P (nI mi)) := by
  have h6 := h.1
  obtain ⟨o1, o2, o3, -, -, -⟩ := ok
  obtain ⟨-, -, -, ⟨p, hp, rfl, ep⟩, q, hq, rfl, eq⟩ := hS
  have hr := sk_le (tx := tx) hp
  rw [ep] at hr
  have er : sk tx N r = r := by rw [← ep, sk_sk]
  have hW := wrd_ok tx N r
  obtain ⟨d0, d1, d2, d3, d4, d5, d6, l3, l5⟩ := chs_work
  have hT0 : f_X7_takes_ tb (nI N) (nI p) cs 0 12 = some (if wrd tx N r = chs 12 then (1, nI (r + (chs 12).length), nI r) else (0, nI r, nI r)) := by
    have := c_takesW (st := cs) (ti := 12) h (by decide) hp
    rw [ep] at this
    exact this
  have hT : ∀ (ti : Nat) (st : Int32), ti < 35 → f_X7_takes_ tb (nI N) (nI r) st 0 ti = some (if wrd tx N r = chs ti then (1, nI (r + (chs ti).length), nI r) else (0, nI r, nI r)) := by
    intro ti st ht
    have := c_takesW (st := st) h ht hr
    rw [er] at this
    exact this
  have hM : f_X10_wordHere (nI N) (nI q) mt = some (wcode (wrd tx N r), nI r) := by
    have := m_wordHere h hq
    rw [eq] at this
    exact this
  have he := wrd_le (tx := tx) (N := N) hr
  have hSe := rt_at (tx := tx) (mk := mk) he
  have hge := sk_ge (tx := tx) (N := N) (p := r + (wrd tx N r).length)
  have hnw : ∀ ti, 12 ≤ ti → ti ≤ 18 → wrd tx N r = chs ti → wrd tx N r ≠ [] ∧ r + 3 ≤ r + (wrd tx N r).length := by
    intro ti h1 h2 hw
    have h3 := l3 ti h1 h2
    rw [← hw] at h3
    refine ⟨fun h9 => ?_, by omega⟩
    rw [h9] at h3
    exact absurd h3 (by decide)
  show PSr π tx N tb n o r ci mi K F S P (f_X8_readStep_b (f_X8_readSteps D) (f_X8_readStep D) (f_X8_readAgain D) K F S (nI ci) tb (nI N) (nI p) cs 0 (-1) p_beds p_letters p_readers (nI o)) (f_X10_readStep_b (f_X10_readStep E) (f_X10_readAgain E) (nI N) (nI q) (-1) mk (nI o) mt m_beds m_letters m_readers P (nI mi))
  unfold f_X8_readStep_b f_X10_readStep_b
  rw [hM, b2_s, m_stepOf hW, b1_s, hT0]
  by_cases w0 : wrd tx N r = chs 12
  · obtain ⟨hn1, hn2⟩ := hnw 12 (by decide) (by decide) w0
    obtain ⟨v1, s1, ca1, cs1, ck1, cp1, ma1, mb1, mk1, e1, f1, hS1, ha1, hv1, -, -, -⟩ := L_num (cs := nI r) h (lo := 1) (B := 31) (by omega) (by omega) hSe
    have e1 : f_X7_number tb (nI N) (nI (r + (wrd tx N r).length)) (nI r) 0 (-1) 1 30 = _ := e1
    have f1 : f_X10_readNumber (nI N) (nI (r + (wrd tx N r).length)) (-1) mk mt 1 30 = _ := f1
    obtain ⟨K', F', S', len', P', nsz', g1, g2, g3⟩ := L_stp (cs := cs1) (K := K) (F := F) (S := S) (P := P) (n := n) (o := o) (r := r) (ci := ci) (mi := mi) (e := r + (wrd tx N r).length) (t := ((0, v1, 0) : St)) h hN (by omega) hn2 hci hmi rfl rfl hS1 (fun r' hr' => by have hv := hv1 r' hr'; have hlt := ha1.2 _ r' rfl hr'; exact ⟨by omega, ⟨Nat.zero_le _, by show v1 ≤ 40; omega, Nat.zero_le _, fun h => (by cases h), fun h => (by cases h), fun h => by cases h⟩⟩) hn1
    have g1 : f_X8_add K F S (nI ci) 0 (nI v1) 0 = _ := g1
    have g2 : f_X10_tellsStep mb1 P (nI mi) 0 (nI v1) 0 = _ := g2
    rw [if_pos w0, b3_s, if_neg (show ¬ (1 : Int32) = 0 by decide), if_pos w0, if_neg (show ¬ (0 : Int32) = -1 by decide), if_neg (show ¬ (0 : Int32) = 6 by decide), m_pass h hr, b1_s, ← w0]
    unfold f_X10_readFirst f_X10_readFirst_68 f_X10_readStep_71 f_X10_readStep_74
    rw [if_neg (show ¬ (0 : Int32) = 5 by decide), if_pos rfl, e1, b5_s, g1, b4_s, f1, b4_s, b4_s, if_neg (show ¬ (0 : Int32) = 3 by decide), g2, b2_s]
    exact g3
  rw [if_neg w0, b3_s, if_pos rfl, if_neg w0, hT 13 _ (by decide)]
  by_cases w1 : wrd tx N r = chs 13
  · obtain ⟨hn1, hn2⟩ := hnw 13 (by decide) (by decide) w1
    obtain ⟨v1, s1, ca1, cs1, ck1, cp1, ma1, mb1, mk1, e1, f1, hS1, ha1, hv1, -, -, -⟩ := L_num (cs := nI r) h (lo := 1) (B := 21) (by omega) (by omega) hSe
    have e1 : f_X7_number tb (nI N) (nI (r + (wrd tx N r).length)) (nI r) 0 (-1) 1 20 = _ := e1
    have f1 : f_X10_readNumber (nI N) (nI (r + (wrd tx N r).length)) (-1) mk mt 1 20 = _ := f1
    obtain ⟨K', F', S', len', P', nsz', g1, g2, g3⟩ := L_stp (cs := cs1) (K := K) (F := F) (S := S) (P := P) (n := n) (o := o) (r := r) (ci := ci) (mi := mi) (e := r + (wrd tx N r).length) (t := ((1, v1, 0) : St)) h hN (by omega) hn2 hci hmi rfl rfl hS1 (fun r' hr' => by have hv := hv1 r' hr'; have hlt := ha1.2 _ r' rfl hr'; exact ⟨by omega, ⟨by show 1 ≤ 5; decide, by show v1 ≤ 40; omega, Nat.zero_le _, fun h => (by cases h), fun h => (by cases h), fun h => by cases h⟩⟩) hn1
    have g1 : f_X8_add K F S (nI ci) 1 (nI v1) 0 = _ := g1
    have g2 : f_X10_tellsStep mb1 P (nI mi) 1 (nI v1) 0 = _ := g2
    rw [if_pos w1, b3_s, if_neg (show ¬ (1 : Int32) = 0 by decide), if_pos w1, if_neg (show ¬ (1 : Int32) = -1 by decide), if_neg (show ¬ (1 : Int32) = 6 by decide), m_pass h hr, b1_s, ← w1]
    unfold f_X10_readFirst f_X10_readFirst_68 f_X10_readStep_71 f_X10_readStep_74
    rw [if_neg (show ¬ (1 : Int32) = 5 by decide), if_neg (show ¬ (1 : Int32) = 0 by decide), if_pos rfl, e1, b5_s, g1, b4_s, f1, b4_s, b4_s, if_neg (show ¬ (1 : Int32) = 3 by decide), g2, b2_s]
    exact g3
  rw [if_neg w1, b3_s, if_pos rfl, if_neg w1, hT 14 _ (by decide)]
  by_cases w2 : wrd tx N r = chs 14
  · obtain ⟨hn1, hn2⟩ := hnw 14 (by decide) (by decide) w2
    obtain ⟨v1, s1, ca1, cs1, ck1, cp1, ma1, mb1, mk1, e1, f1, hS1, ha1, hv1, -, -, -⟩ := L_num (cs := nI r) h (lo := 0) (B := (gL π)) (by omega) (by omega) hSe
    have e1 : f_X7_number tb (nI N) (nI (r + (wrd tx N r).length)) (nI r) 0 (-1) 0 (nI (gL π) - 1) = _ := e1
    have f1 : f_X10_readNumber (nI N) (nI (r + (wrd tx N r).length)) (-1) mk mt 0 (nI (gL π) - 1) = _ := f1
    obtain ⟨K', F', S', len', P', nsz', g1, g2, g3⟩ := L_stp (cs := cs1) (K := K) (F := F) (S := S) (P := P) (n := n) (o := o) (r := r) (ci := ci) (mi := mi) (e := r + (wrd tx N r).length) (t := ((2, v1, 0) : St)) h hN (by omega) hn2 hci hmi rfl rfl hS1 (fun r' hr' => by have hv := hv1 r' hr'; have hlt := ha1.2 _ r' rfl hr'; exact ⟨by omega, ⟨by show 2 ≤ 5; decide, by show v1 ≤ 40; omega, Nat.zero_le _, fun _ => hv.2, fun h => (by cases h), fun h => by cases h⟩⟩) hn1
    have g1 : f_X8_add K F S (nI ci) 2 (nI v1) 0 = _ := g1
    have g2 : f_X10_tellsStep mb1 P (nI mi) 2 (nI v1) 0 = _ := g2
    rw [if_pos w2, b3_s, if_neg (show ¬ (1 : Int32) = 0 by decide), if_pos w2, if_neg (show ¬ (2 : Int32) = -1 by decide), if_neg (show ¬ (2 : Int32) = 6 by decide), m_pass h hr, b1_s, ← w2]
    unfold f_X10_readFirst f_X10_readFirst_68 f_X10_readStep_71 f_X10_readStep_74
    rw [if_neg (show ¬ (2 : Int32) = 5 by decide), if_neg (show ¬ (2 : Int32) = 0 by decide), if_neg (show ¬ (2 : Int32) = 1 by decide), if_pos rfl, hq2, hp2, e1, b5_s, g1, b4_s, f1, b4_s, b4_s, if_neg (show ¬ (2 : Int32) = 3 by decide), g2, b2_s]
    exact g3
  rw [if_neg w2, b3_s, if_pos rfl, if_neg w2, hT 15 _ (by decide)]
  by_cases w3 : wrd tx N r = chs 15
  · obtain ⟨hn1, hn2⟩ := hnw 15 (by decide) (by decide) w3
    obtain ⟨v1, s1, ca1, cs1, ck1, cp1, ma1, mb1, mk1, e1, f1, hS1, ha1, hv1, -, -, -⟩ := L_num (cs := nI r) h (lo := 0) (B := (gR π)) (by omega) (by omega) hSe
    have e1 : f_X7_number tb (nI N) (nI (r + (wrd tx N r).length)) (nI r) 0 (-1) 0 (nI (gR π) - 1) = _ := e1
    have f1 : f_X10_readNumber (nI N) (nI (r + (wrd tx N r).length)) (-1) mk mt 0 (nI (gR π) - 1) = _ := f1
    obtain ⟨v2, s2, ca2, cs2, ck2, cp2, ma2, mb2, mk2, e2, f2, hS2, ha2, hv2, -, -, -⟩ := L_num (cs := cs1) h (lo := 0) (B := (gB π)) (by omega) (by omega) hS1
    have e2 : f_X7_number tb (nI N) ca1 cs1 ck1 cp1 0 (nI (gB π) - 1) = _ := e2
    have f2 : f_X10_readNumber (nI N) ma1 mb1 mk1 mt 0 (nI (gB π) - 1) = _ := f2
    obtain ⟨K', F', S', len', P', nsz', g1, g2, g3⟩ := L_stp (cs := cs2) (K := K) (F := F) (S := S) (P := P) (n := n) (o := o) (r := r) (ci := ci) (mi := mi) (e := r + (wrd tx N r).length) (t := ((3, v1, v2) : St)) h hN (by omega) hn2 hci hmi rfl rfl hS2 (fun r' hr' => by obtain ⟨r1, hr1, hlt2⟩ := adv_inl ha2 hr'; have hv := hv1 r1 hr1; have hw := hv2 r' hr'; have hlt := ha1.2 _ r1 rfl hr1; exact ⟨by omega, ⟨by show 3 ≤ 5; decide, by show v1 ≤ 40; omega, by show v2 ≤ 40; omega, fun h => (by cases h), fun _ => ⟨hv.2, hw.2⟩, fun h => by cases h⟩⟩) hn1
    have g1 : f_X8_add K F S (nI ci) 3 (nI v1) (nI v2) = _ := g1
    have g2 : f_X10_tellsStep mb2 P (nI mi) 3 (nI v1) (nI v2) = _ := g2
    rw [if_pos w3, b3_s, if_neg (show ¬ (1 : Int32) = 0 by decide), if_pos w3, if_neg (show ¬ (3 : Int32) = -1 by decide), if_neg (show ¬ (3 : Int32) = 6 by decide), m_pass h hr, b1_s, ← w3]
    unfold f_X10_readFirst f_X10_readFirst_68 f_X10_readStep_71 f_X10_readStep_74
    rw [if_neg (show ¬ (3 : Int32) = 5 by decide), if_neg (show ¬ (3 : Int32) = 0 by decide), if_neg (show ¬ (3 : Int32) = 1 by decide), if_neg (show ¬ (3 : Int32) = 2 by decide), if_pos rfl, hq3, hp3, hp1, hq1, e1, b5_s, e2, b5_s, g1, b4_s, f1, b4_s, b4_s, if_pos rfl, f2, b4_s, g2, b2_s]
    exact g3
  rw [if_neg w3, b3_s, if_pos rfl, if_neg w3, hT 16 _ (by decide)]
  by_cases w4 : wrd tx N r = chs 16
  · obtain ⟨hn1, hn2⟩ := hnw 16 (by decide) (by decide) w4
    obtain ⟨v1, s1, ca1, cs1, ck1, cp1, ma1, mb1, mk1, e1, f1, hS1, ha1, hv1, -, -, -⟩ := L_num (cs := nI r) h (lo := 0) (B := (gB π)) (by omega) (by omega) hSe
    have e1 : f_X7_number tb (nI N) (nI (r + (wrd tx N r).length)) (nI r) 0 (-1) 0 (nI (gB π) - 1) = _ := e1
    have f1 : f_X10_readNumber (nI N) (nI (r + (wrd tx N r).length)) (-1) mk mt 0 (nI (gB π) - 1) = _ := f1
    obtain ⟨K', F', S', len', P', nsz', g1, g2, g3⟩ := L_stp (cs := cs1) (K := K) (F := F) (S := S) (P := P) (n := n) (o := o) (r := r) (ci := ci) (mi := mi) (e := r + (wrd tx N r).length) (t := ((4, v1, 0) : St)) h hN (by omega) hn2 hci hmi rfl rfl hS1 (fun r' hr' => by have hv := hv1 r' hr'; have hlt := ha1.2 _ r' rfl hr'; exact ⟨by omega, ⟨by show 4 ≤ 5; decide, by show v1 ≤ 40; omega, Nat.zero_le _, fun h => (by cases h), fun h => (by cases h), fun _ => hv.2⟩⟩) hn1
    have g1 : f_X8_add K F S (nI ci) 4 (nI v1) 0 = _ := g1
    have g2 : f_X10_tellsStep mb1 P (nI mi) 4 (nI v1) 0 = _ := g2
    rw [if_pos w4, b3_s, if_neg (show ¬ (1 : Int32) = 0 by decide), if_pos w4, if_neg (show ¬ (4 : Int32) = -1 by decide), if_neg (show ¬ (4 : Int32) = 6 by decide), m_pass h hr, b1_s, ← w4]
    unfold f_X10_readFirst f_X10_readFirst_68 f_X10_readStep_71 f_X10_readStep_74
    rw [if_neg (show ¬ (4 : Int32) = 5 by decide), if_neg (show ¬ (4 : Int32) = 0 by decide), if_neg (show ¬ (4 : Int32) = 1 by decide), if_neg (show ¬ (4 : Int32) = 2 by decide), if_neg (show ¬ (4 : Int32) = 3 by decide), hq1, hp1, e1, b5_s, g1, b4_s, f1, b4_s, b4_s, if_neg (show ¬ (4 : Int32) = 3 by decide), g2, b2_s]
    exact g3
  rw [if_neg w4, b3_s, if_pos rfl, if_neg w4, hT 17 _ (by decide)]
  by_cases w5 : wrd tx N r = chs 17
  · obtain ⟨hn1, hn2⟩ := hnw 17 (by decide) (by decide) w5
    obtain ⟨K', F', S', len', P', nsz', g1, g2, g3⟩ := L_stp (cs := nI r) (K := K) (F := F) (S := S) (P := P) (n := n) (o := o) (r := r) (ci := ci) (mi := mi) (e := r + (wrd tx N r).length) (t := ((5, 0, 0) : St)) h hN (by omega) hn2 hci hmi rfl rfl hSe (fun r' hr' => by cases hr'; exact ⟨hge, ⟨by show 5 ≤ 5; decide, Nat.zero_le _, Nat.zero_le _, fun h => (by cases h), fun h => (by cases h), fun h => by cases h⟩⟩) hn1
    have g1 : f_X8_add K F S (nI ci) 5 0 0 = _ := g1
    have g2 : f_X10_tellsStep (-1) P (nI mi) 5 0 0 = _ := g2
    rw [if_pos w5, b3_s, if_neg (show ¬ (1 : Int32) = 0 by decide), if_pos w5, if_neg (show ¬ (5 : Int32) = -1 by decide), if_neg (show ¬ (5 : Int32) = 6 by decide), m_pass h hr, b1_s, ← w5]
    unfold f_X10_readFirst f_X10_readStep_71 f_X10_readStep_74
    rw [if_pos rfl, g1, b4_s, b4_s, if_neg (show ¬ (5 : Int32) = 3 by decide), g2, b2_s]
    exact g3
  rw [if_neg w5, b3_s, if_pos rfl, if_neg w5, hT 18 _ (by decide)]
  by_cases w6 : wrd tx N r = chs 18
  · have hA := hA w6
    rw [if_pos w6, b3_s, if_neg (show ¬ (1 : Int32) = 0 by decide), if_pos w6, if_neg (show ¬ (6 : Int32) = -1 by decide), if_pos rfl, l5, b8_id]
    exact hA
  rw [if_neg w6, b3_s, if_pos rfl, if_neg w6, if_pos rfl, show f_X7_blame (nI r) 0 (-1) 1 = some (1, nI r) from rfl, b2_s, show f_X10_wrong (-1) mk 1 (nI r) = some (nI r, 1) from rfl, b2_s]
  unfold f_X10_readStep_74
  rw [m_signF (by omega), b3_s]
  exact ⟨.inr (1, r), K, F, S, nI ci, nI r, nI r, 1, nI r, nI r, nI r, 1, nI r, nI r, nI r, 1, nI o, P, nI mi, rfl, c_needF (by decide) (by decide), rfl, rt_f (by omega) (by omega) hr hr, ⟨ci, by omega, rfl⟩, fun _ => rfl, fun _ hr' => by cases hr'⟩
end WU
