/-! ===== a work's text: again ===== -/
section WY
variable {π : Pg} {tx : Nat → Nat} {N : Nat} {tb mt : Nat → Int32} {p_beds p_letters p_readers m_beds m_letters m_readers : Int32} {K F S P : Nat → Int32} {mk : Int32}
theorem L_again6 (h : RTx tx N tb mt) (hN : N ≤ 150) {n D E r ci mi : Nat} {k1 k2} (hw : wrd tx N r = chs 18) (hr : r ≤ N) (hci : ci ≤ r) : PSr π tx N tb n 6 r ci mi K F S P (f_X8_readAgain (D + 1) K F S (nI ci) tb (nI N) (nI (r + 5)) (nI r) 0 (-1) p_beds p_letters p_readers (nI 6)) (b6 (f_X10_readAgain (E + 1) (nI N) (nI r) (-1) mk (nI 6) mt m_beds m_letters m_readers P (nI mi)) (fun c18 c19 c20 c21 c22 c23 => f_X10_readStep_74 k1 k2 (nI N) mt m_beds m_letters m_readers c18 c19 c20 c21 c22 c23)) := by
  have h6 := h.1
  obtain ⟨m, hFU⟩ := FU_pos
  show PSr π tx N tb n 6 r ci mi K F S P (f_X8_readAgain_b (f_X8_readSteps D) (f_X8_readStep D) (f_X8_readAgain D) K F S (nI ci) tb (nI N) (nI (r + 5)) (nI r) 0 (-1) p_beds p_letters p_readers (nI 6)) (b6 (f_X10_readAgain_b (f_X10_readStep E) (f_X10_readAgain E) (nI N) (nI r) (-1) mk (nI 6) mt m_beds m_letters m_readers P (nI mi)) (fun c18 c19 c20 c21 c22 c23 => f_X10_readStep_74 k1 k2 (nI N) mt m_beds m_letters m_readers c18 c19 c20 c21 c22 c23))
  have en : f_X10_readNumber (nI N) (nI r) (nI r) 3 mt 0 30 = some (0, nI r, nI r, 3) := by
    unfold f_X10_readNumber
    rw [m_fine0 (by omega), b1_s, if_pos rfl]
  unfold f_X8_readAgain_b f_X10_readAgain_b
  rw [if_neg (show ¬ nI 6 < 6 by decide), show f_X7_blame (nI r) 0 (-1) 3 = some (3, nI r) from rfl, b2_s, opens6 (by omega), b4_s, en, b4_s, m_signF (by omega), b3_s, tellsF (by omega), b2_s, hFU, m_again32F (by omega)]
  unfold f_X10_readAgain_55 f_X10_readStep_74
  rw [m_signF (by omega), b3_s, m_fine0 (by omega), b1_s, if_pos rfl, b6_s, m_signF (by omega), b3_s]
  refine ⟨.inr (3, r), K, F, S, nI ci, _, _, _, _, _, _, 3, nI r, nI r, nI r, 3, _, P, nI mi, rfl, c_needF (by decide) (by decide), rfl, rt_f (by omega) (by omega) hr hr, ⟨ci, by omega, rfl⟩, fun h9 => ?_, fun _ hr' => by cases hr'⟩
  rw [h9] at hw
  exact absurd (congrArg List.length hw) (by decide +kernel)
theorem L_again (h : RTx tx N tb mt) (hN : N ≤ 150) {n o D E r ci mi : Nat} {k1 k2} (ho : o < 6) (hSt : PSt π tx N tb mt p_beds p_letters p_readers m_beds m_letters m_readers n (o + 1) D E) (hw : wrd tx N r = chs 18) (hr : r ≤ N) (hci : ci ≤ r) (hmi : mi ≤ r) : PSr π tx N tb (n + 1) o r ci mi K F S P (f_X8_readAgain (D + 2) K F S (nI ci) tb (nI N) (nI (r + 5)) (nI r) 0 (-1) p_beds p_letters p_readers (nI o)) (b6 (f_X10_readAgain (E + 1) (nI N) (nI r) (-1) mk (nI o) mt m_beds m_letters m_readers P (nI mi)) (fun c18 c19 c20 c21 c22 c23 => f_X10_readStep_74 k1 k2 (nI N) mt m_beds m_letters m_readers c18 c19 c20 c21 c22 c23)) := by
  have h6 := h.1
  obtain ⟨-, -, -, -, -, -, -, -, l5⟩ := chs_work
  have hnw : wrd tx N r ≠ [] := fun h9 => by
    rw [h9] at hw
    exact absurd (congrArg List.length hw) (by decide +kernel)
  have he := wrd_le (tx := tx) (N := N) hr
  rw [hw, l5] at he
  have hSe := rt_at (tx := tx) (mk := mk) he
  have hge := sk_ge (tx := tx) (N := N) (p := r + 5)
  obtain ⟨m, hFU⟩ := FU_pos
  obtain ⟨v, s1, ca1, cs1, ck1, cp1, ma1, mb1, mk1, e1, f1, hS1, ha1, hv1, -, -, -⟩ := L_num (cs := nI r) h (lo := 0) (B := 31) (by omega) (by omega) hSe
  have e1 : f_X7_number tb (nI N) (nI (r + 5)) (nI r) 0 (-1) 0 30 = _ := e1
  have f1 : f_X10_readNumber (nI N) (nI (r + 5)) (-1) mk mt 0 30 = _ := f1
  obtain ⟨s2, ca2, cs2, ck2, cp2, ma2, mb2, mk2, e2, f2, hS2, ha2, -⟩ := L_need (cs := cs1) h (c := 91) (by omega) (by omega) hS1
  have e2 : f_X7_need tb (nI N) ca1 cs1 ck1 cp1 91 = _ := e2
  have f2 : f_X10_sign (nI N) ma1 mb1 mk1 mt 91 = _ := f2
  have eo : f_X10_opensOne (nI r) (-1) mk (nI o) 5 = some (nI (r + 5), -1, mk, nI (o + 1)) := opens1 (b := 5) ho
  show PSr π tx N tb (n + 1) o r ci mi K F S P (f_X8_readAgain_b (f_X8_readSteps (D + 1)) (f_X8_readStep (D + 1)) (f_X8_readAgain (D + 1)) K F S (nI ci) tb (nI N) (nI (r + 5)) (nI r) 0 (-1) p_beds p_letters p_readers (nI o)) (b6 (f_X10_readAgain_b (f_X10_readStep E) (f_X10_readAgain E) (nI N) (nI r) (-1) mk (nI o) mt m_beds m_letters m_readers P (nI mi)) (fun c18 c19 c20 c21 c22 c23 => f_X10_readStep_74 k1 k2 (nI N) mt m_beds m_letters m_readers c18 c19 c20 c21 c22 c23))
  unfold f_X8_readAgain_b f_X10_readAgain_b
  have ho6 : nI o < 6 := by rw [show (6 : Int32) = nI 6 from rfl, nI_ltJ (by omega) (by omega)]; exact ho
  have hc150 : ¬ (150 : Int32) ≤ nI ci := by rw [show (150 : Int32) = nI 150 from rfl, nI_leJ (by omega) (by omega)]; omega
  have hix : ixb (nI ci) 150 = true := ixb_nI (by omega) (by omega)
  have hcl : (nI ci).toNatClampNeg = ci := nI_cl (by omega)
  rw [if_pos ho6, e1, b5_s, add1 (by omega), b4_s, e2, b4_s, nI_1, eo, b4_s, f1, b4_s, f2, b3_s]
  have hrs : ∀ (K F S : Nat → Int32) (len a b c d : Int32), f_X8_readSteps (D + 1) K F S len tb (nI N) a b c d p_beds p_letters p_readers (nI (o + 1)) = f_X8_readSteps_3 (f_X8_readSteps D) (f_X8_readStep D) (f_X8_readAgain D) tb (nI N) p_beds p_letters p_readers (nI (o + 1)) FU 0 K F S len a b c d := fun _ _ _ _ _ _ _ _ => rfl
  rw [hrs]
  cases s2 with
  | inr x =>
    obtain ⟨k, f⟩ := x
    obtain ⟨g1, g3, gf, rfl, rfl, rfl, rfl, q, hq, rfl⟩ := hS2
    have hk := ne0 g1 g3
    obtain ⟨K', F', S', k', a1, a2⟩ := addF (K := upd K ci 6) (F := upd F ci (nI v)) (S := upd (upd S ci 0) ci (nI (ci + 1))) (n1 := 7) (n2 := nI ci) (n3 := 0) (ci + 1) (by omega)
    rw [hFU, c_steps3F hk, b8_s, c_needF hk (by decide), b4_s, if_neg hc150, hix, if_pos rfl, hcl, tellsF (by omega), b2_s, m_again32F (by omega)]
    unfold f_X8_readAgain_72 f_X10_readAgain_55 f_X10_readStep_74
    rw [a1, b4_s, m_signF (by omega), b3_s, m_fine0 (by omega), b1_s, if_pos rfl, b6_s, m_signF (by omega), b3_s]
    exact ⟨.inr (k, f), K', F', S', nI k', _, _, _, _, _, _, nI k, nI f, nI q, nI f, nI k, _, P, nI mi, rfl, c_needF hk (by decide), rfl, rt_f g1 g3 gf hq, ⟨k', a2, rfl⟩, fun h9 => absurd h9 hnw, fun _ hr' => by cases hr'⟩
  | inl r2 =>
    obtain ⟨r1, rfl, hlt2⟩ := adv_inl ha2 rfl
    have hlt1 := ha1.2 _ r1 rfl rfl
    have hv := (hv1 r1 rfl).2
    have hS2' := hS2
    obtain ⟨rfl, rfl, rfl, -, -⟩ := hS2
    obtain ⟨s3, K', F', S', len', ca3, cs3, ck3, cp3, ca4, cs4, ck4, cp4, ma3, mb3, mk3, op3, P', nsz, ma4, mb4, mk4, g1, g2, g3, g4, hS3, gl, g5⟩ := L_aloop (x2 := nI mi) (q1x := f_X8_readSteps D) (q3 := f_X8_readAgain D) (k2 := f_X10_readAgain E) h hN hSt N 0 FU FU r2 (ci + 1) (mi + 3) (upd K ci 6) (upd F ci (nI v)) (upd S ci 0) (upd (upd (upd P mi 6) (mi + 1) (nI v)) (mi + 2) 0) ca2 cs2 ma2 mk2 (by omega) (FU_gt (by omega)) (FU_gt (by omega)) (by omega) (by omega) (Nat.zero_le _) hS2'
    have g1 : f_X8_readSteps_3 (f_X8_readSteps D) (f_X8_readStep D) (f_X8_readAgain D) tb (nI N) p_beds p_letters p_readers (nI (o + 1)) FU 0 (upd K ci 6) (upd F ci (nI v)) (upd S ci 0) (nI (ci + 1)) ca2 cs2 0 (-1) = _ := g1
    rw [g1, b8_s, g2, b4_s, if_neg hc150, hix, if_pos rfl, hcl, tells1 (by omega), b2_s, g3]
    unfold f_X8_readAgain_72 f_X10_readAgain_55
    rw [g4, b3_s]
    cases s3 with
    | inr x =>
      obtain ⟨kl, hkl, rfl⟩ := gl
      obtain ⟨k, f⟩ := x
      obtain ⟨k1', k3, gf, rfl, rfl, rfl, rfl, q, hq, rfl⟩ := hS3
      have hk := ne0 k1' k3
      obtain ⟨K2, F2, S2, k', a1, a2⟩ := addF (K := K') (F := F') (S := upd S' ci (nI kl)) (n1 := 7) (n2 := nI ci) (n3 := 0) kl hkl
      unfold f_X10_readStep_74
      rw [a1, b4_s, m_fine0 (by omega), b1_s, if_pos rfl, b6_s, m_signF (by omega), b3_s]
      exact ⟨.inr (k, f), K2, F2, S2, nI k', _, _, _, _, _, _, nI k, nI f, nI q, nI f, nI k, _, P', nsz, rfl, c_needF hk (by decide), rfl, rt_f k1' k3 gf hq, ⟨k', a2, rfl⟩, fun h9 => absurd h9 hnw, fun _ hr' => by cases hr'⟩
    | inl r3 =>
      obtain ⟨b1', b2, L, b3, rfl, rfl, b6, b7, b8, b9, b10, b11⟩ := g5 r3 rfl
      have hS3' := hS3
      obtain ⟨rfl, rfl, rfl, ⟨p3, hp3, rfl, ep3⟩, -⟩ := hS3
      have hr3 := sk_le (tx := tx) hp3
      obtain ⟨s4, ca5, cs5, ck5, cp5, ma5, mb5, mk5, k1', k2', hS4, ha4, -⟩ := L_need (cs := cs4) h (c := 59) (by omega) (by omega) hS3'
      have k1' : f_X7_need tb (nI N) (nI p3) cs4 0 (-1) 59 = _ := k1'
      have k2' : f_X10_sign (nI N) ma4 (-1) mk4 mt 59 = _ := k2'
      have ix : ixb (nI mi + 2) 150 = true := by rw [show (2 : Int32) = nI 2 from rfl, nI_add]; exact ixb_nI (by omega) (by omega)
      have ic : (nI mi + 2).toNatClampNeg = mi + 2 := by rw [show (2 : Int32) = nI 2 from rfl, nI_add]; exact nI_cl (by omega)
      unfold f_X10_readStep_74
      rw [add1 (by omega), b4_s, m_fine1, b1_s, if_neg (show ¬ (1 : Int32) = 0 by decide), ix, if_pos rfl, ic, b6_s, k2', b3_s]
      refine ⟨s4, _, _, _, _, _, _, _, _, ca5, cs5, ck5, cp5, ma5, mb5, mk5, op3 - 1, _, _, rfl, k1', rfl, hS4, ⟨ci + 1 + szs (szC n) L + 1, by omega, rfl⟩, fun h9 => absurd h9 hnw, fun r' hr' => ?_⟩
      have hlt4 := ha4.2 _ r' rfl hr'
      refine ⟨by omega, by rw [b2]; exact nI_sub (a := o + 1) (b := 1) (by omega), (Sum.inr (v, L) : St ⊕ (Nat × List (PE n))), (show v ≤ 30 ∧ ∀ e ∈ L, OkE π n e from ⟨by omega, b3⟩), ?_, ?_, ?_, ?_, fun q hq => ?_, fun q hq => ?_, ?_, ?_⟩
      · show nI (ci + 1 + szs (szC n) L + 1) = nI (ci + (2 + szs (szC n) L))
        congr 1
        omega
      · show nI (mi + 3 + szs (szM n) L) = nI (mi + (3 + szs (szM n) L))
        congr 1
        omega
      · obtain ⟨x1, x2, -⟩ := b8 ci (by omega)
        refine (show _ = (6 : Int32) ∧ _ = nI v ∧ _ = nI (ci + 1 + szs (szC n) L) ∧ lays (LC _ _ _ n) (szC n) L (ci + 1) ∧ _ = (7 : Int32) ∧ _ = nI ci from ⟨?_, ?_, ?_, lays_congr _ _ (fun e he j h1 h2 => LC_congr n e j (fun q hq1 hq2 => ⟨upd_n (by omega), upd_n (by omega), ?_⟩)) b6, upd_s _ _ _, upd_s _ _ _⟩)
        · rw [upd_n (by omega), x1, upd_s]
        · rw [upd_n (by omega), x2, upd_s]
        · rw [upd_n (by omega), upd_s]
        · rw [upd_n (by omega), upd_n (by omega)]
      · have y0 := b9 mi (by omega)
        have y1 := b9 (mi + 1) (by omega)
        refine (show _ = (6 : Int32) ∧ _ = nI v ∧ _ = nI (mi + 3 + szs (szM n) L) ∧ lays (LM _ n) (szM n) L (mi + 3) from ⟨?_, ?_, upd_s _ _ _, lays_congr _ _ (fun e he j h1 h2 => LM_congr n e j (fun q hq1 hq2 => upd_n (by omega))) b7⟩)
        · rw [upd_n (by omega), y0, upd_n (by omega), upd_n (by omega), upd_s]
        · rw [upd_n (by omega), y1, upd_n (by omega), upd_s]
      · obtain ⟨x1, x2, x3⟩ := b8 q (by omega)
        refine ⟨?_, ?_, ?_⟩
        · rw [upd_n (by omega), x1, upd_n (by omega)]
        · rw [upd_n (by omega), x2, upd_n (by omega)]
        · rw [upd_n (by omega), upd_n (by omega), x3, upd_n (by omega)]
      · rw [upd_n (by omega), b9 q (by omega), upd_n (by omega), upd_n (by omega), upd_n (by omega)]
      · show ci + (2 + szs (szC n) L) ≤ r'
        omega
      · show mi + (3 + szs (szM n) L) ≤ r'
        omega
theorem PSt_all (h : RTx tx N tb mt) (hN : N ≤ 150) (ok : OkP π) (hp1 : p_beds = nI (gB π)) (hp2 : p_letters = nI (gL π)) (hp3 : p_readers = nI (gR π)) (hq1 : m_beds = nI (gB π)) (hq2 : m_letters = nI (gL π)) (hq3 : m_readers = nI (gR π)) : ∀ (n o D E : Nat), n + o = 6 → 3 * n + 2 ≤ D → 2 * n + 2 ≤ E → PSt π tx N tb mt p_beds p_letters p_readers m_beds m_letters m_readers n o D E := by
  intro n
  induction n with
  | zero =>
    intro o D E hno hD hE r ci mi K F S P ca cs ma mk hci hmi hS
    obtain ⟨D, rfl⟩ : ∃ j, D = j + 2 := ⟨D - 2, by omega⟩
    obtain ⟨E, rfl⟩ : ∃ j, E = j + 2 := ⟨E - 2, by omega⟩
    obtain rfl : o = 6 := by omega
    have hr := (rt_m h hS).2.2.1
    exact L_step h hN ok hp1 hp2 hp3 hq1 hq2 hq3 hci hmi hS (fun hw => L_again6 h hN hw hr hci)
  | succ n ih =>
    intro o D E hno hD hE r ci mi K F S P ca cs ma mk hci hmi hS
    obtain ⟨D, rfl⟩ : ∃ j, D = j + 3 := ⟨D - 3, by omega⟩
    obtain ⟨E, rfl⟩ : ∃ j, E = j + 2 := ⟨E - 2, by omega⟩
    have hr := (rt_m h hS).2.2.1
    exact L_step h hN ok hp1 hp2 hp3 hq1 hq2 hq3 hci hmi hS (fun hw => L_again h hN (by omega) (ih (o + 1) D E (by omega) (by omega) (by omega)) hw hr hci hmi)
end WY
