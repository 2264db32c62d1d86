/-! ===== a garden is told ===== -/
def aBed (π : Pg) (f : Nat) : Pg := ((gB π + 1, gL π, gR π), fup (gFa π) (gB π) f, gDr π, gLe π, gWd π, gHo π)
def aLet (π : Pg) (d n : Nat) (w : Nat → Nat) : Pg := ((gB π, gL π + 1, gR π), gFa π, fup (gDr π) (gL π) d, fup (gLe π) (gL π) n, fup (gWd π) (gL π) w, gHo π)
def aRea (π : Pg) (b : Nat) : Pg := ((gB π, gL π, gR π + 1), gFa π, gDr π, gLe π, gWd π, fup (gHo π) (gR π) b)
section TD
variable {π : Pg} {tx : Nat → Nat} {N : Nat} {tb mt : Nat → Int32} {ca cs ck cp ma mb mk : Int32}
variable {p_beds p_letters p_readers : Int32} {pf pd pl pw ph nb nl nr : Nat → Int32} {nB nL nR : Int32}
theorem aBed_c (hP : RPc π (p_beds, p_letters, p_readers, pf, pd, pl, pw, ph)) {f : Nat} : RPc (aBed π f) (nI (gB π + 1), p_letters, p_readers, upd pf (gB π) (nI f), pd, pl, pw, ph) := by
  obtain ⟨h1, h2, h3, h4, h5, h6⟩ := hP
  refine ⟨rfl, h2, h3, fun i hi => ?_, h5, h6⟩
  show upd pf (gB π) (nI f) i = nI (fup (gFa π) (gB π) f i)
  by_cases e : i = gB π
  · rw [e, upd_s, fup_s]
  · rw [upd_n e, fup_n e]; exact h4 i (by have : i < gB π + 1 := hi; omega)
theorem aBed_m (hQ : RPm π nB nL nR nb nl nr) {f : Nat} : RPm (aBed π f) (nI (gB π + 1)) nL nR (upd nb (gB π) (nI f)) nl nr := by
  obtain ⟨h1, h2, h3, h4, h5, h6⟩ := hQ
  refine ⟨rfl, h2, h3, fun i hi => ?_, h5, h6⟩
  show upd nb (gB π) (nI f) i = nI (fup (gFa π) (gB π) f i)
  by_cases e : i = gB π
  · rw [e, upd_s, fup_s]
  · rw [upd_n e, fup_n e]; exact h4 i (by have : i < gB π + 1 := hi; omega)
theorem aBed_ok (ok : OkP π) {f : Nat} (h : gB π < 6) (hf : f ≤ 30) : OkP (aBed π f) := by
  obtain ⟨h1, h2, h3, h4, h5, h6⟩ := ok
  refine ⟨h, h2, h3, fun i hi => ?_, fun l hl => ⟨Nat.lt_succ_of_lt (h5 l hl).1, (h5 l hl).2⟩, fun r hr => Nat.lt_succ_of_lt (h6 r hr)⟩
  show fup (gFa π) (gB π) f i ≤ 30
  by_cases e : i = gB π
  · rw [e, fup_s]; exact hf
  · rw [fup_n e]; exact h4 i (by have : i < gB π + 1 := hi; omega)
theorem aRea_c (hP : RPc π (p_beds, p_letters, p_readers, pf, pd, pl, pw, ph)) {b : Nat} : RPc (aRea π b) (p_beds, p_letters, nI (gR π + 1), pf, pd, pl, pw, upd ph (gR π) (nI b)) := by
  obtain ⟨h1, h2, h3, h4, h5, h6⟩ := hP
  refine ⟨h1, h2, rfl, h4, h5, fun i hi => ?_⟩
  show upd ph (gR π) (nI b) i = nI (fup (gHo π) (gR π) b i)
  by_cases e : i = gR π
  · rw [e, upd_s, fup_s]
  · rw [upd_n e, fup_n e]; exact h6 i (by have : i < gR π + 1 := hi; omega)
theorem aRea_m (hQ : RPm π nB nL nR nb nl nr) {b : Nat} : RPm (aRea π b) nB nL (nI (gR π + 1)) nb nl (upd nr (gR π) (nI b)) := by
  obtain ⟨h1, h2, h3, h4, h5, h6⟩ := hQ
  refine ⟨h1, h2, rfl, h4, h5, fun i hi => ?_⟩
  show upd nr (gR π) (nI b) i = nI (fup (gHo π) (gR π) b i)
  by_cases e : i = gR π
  · rw [e, upd_s, fup_s]
  · rw [upd_n e, fup_n e]; exact h6 i (by have : i < gR π + 1 := hi; omega)
theorem aRea_ok (ok : OkP π) {b : Nat} (h : gR π < 5) (hb : b < gB π) : OkP (aRea π b) := by
  obtain ⟨h1, h2, h3, h4, h5, h6⟩ := ok
  refine ⟨h1, h2, h, h4, h5, fun i hi => ?_⟩
  show fup (gHo π) (gR π) b i < gB π
  by_cases e : i = gR π
  · rw [e, fup_s]; exact hb
  · rw [fup_n e]; exact h6 i (by have : i < gR π + 1 := hi; omega)
theorem aLet_c (hP : RPc π (p_beds, p_letters, p_readers, pf, pd, pl, pw, ph)) (ok : OkP π) {d n : Nat} {w : Nat → Nat} {pw' : Nat → Int32} (hw : ∀ k, k < n → pw' (gL π * 8 + k) = nI (w k)) (hu : ∀ i, i < gL π * 8 → pw' i = pw i) : RPc (aLet π d n w) (p_beds, nI (gL π + 1), p_readers, pf, upd pd (gL π) (nI d), upd pl (gL π) (nI n), pw', ph) := by
  obtain ⟨h1, h2, h3, h4, h5, h6⟩ := hP
  refine ⟨h1, rfl, h3, h4, fun i hi => ?_, h6⟩
  show upd pd (gL π) (nI d) i = nI (fup (gDr π) (gL π) d i) ∧ upd pl (gL π) (nI n) i = nI (fup (gLe π) (gL π) n i) ∧ ∀ k, k < fup (gLe π) (gL π) n i → pw' (i * 8 + k) = nI (fup (gWd π) (gL π) w i k)
  by_cases e : i = gL π
  · rw [e, upd_s, upd_s, fup_s, fup_s, fup_s]
    exact ⟨rfl, rfl, hw⟩
  · have hi' : i < gL π := by have : i < gL π + 1 := hi; omega
    have h8 := (ok.2.2.2.2.1 i hi').2.2.1
    rw [upd_n e, upd_n e, fup_n e, fup_n e, fup_n e]
    exact ⟨(h5 i hi').1, (h5 i hi').2.1, fun k hk => by rw [hu _ (by omega)]; exact (h5 i hi').2.2 k hk⟩
theorem aLet_m (hQ : RPm π nB nL nR nb nl nr) (ok : OkP π) {d n : Nat} {w : Nat → Nat} {nl' : Nat → Int32} (hd : nl' (10 * gL π) = nI d) (hn : nl' (10 * gL π + 1) = nI n) (hw : ∀ k, k < n → nl' (10 * gL π + 2 + k) = nI (w k)) (hu : ∀ i, i < 10 * gL π → nl' i = nl i) : RPm (aLet π d n w) nB (nI (gL π + 1)) nR nb nl' nr := by
  obtain ⟨h1, h2, h3, h4, h5, h6⟩ := hQ
  refine ⟨h1, rfl, h3, h4, fun i hi => ?_, h6⟩
  show nl' (10 * i) = nI (fup (gDr π) (gL π) d i) ∧ nl' (10 * i + 1) = nI (fup (gLe π) (gL π) n i) ∧ ∀ k, k < fup (gLe π) (gL π) n i → nl' (10 * i + 2 + k) = nI (fup (gWd π) (gL π) w i k)
  by_cases e : i = gL π
  · rw [e, fup_s, fup_s, fup_s]
    exact ⟨hd, hn, hw⟩
  · have hi' : i < gL π := by have : i < gL π + 1 := hi; omega
    have h8 := (ok.2.2.2.2.1 i hi').2.2.1
    rw [fup_n e, fup_n e, fup_n e]
    exact ⟨by rw [hu _ (by omega)]; exact (h5 i hi').1, by rw [hu _ (by omega)]; exact (h5 i hi').2.1, fun k hk => by rw [hu _ (by omega)]; exact (h5 i hi').2.2 k hk⟩
theorem aLet_ok (ok : OkP π) {d n : Nat} {w : Nat → Nat} (h : gL π < 6) (hd : d < gB π) (h1n : 1 ≤ n) (h8n : n ≤ 8) (hw : ∀ k, k < n → w k < 16) : OkP (aLet π d n w) := by
  obtain ⟨h1, h2, h3, h4, h5, h6⟩ := ok
  refine ⟨h1, h, h3, h4, fun i hi => ?_, h6⟩
  show fup (gDr π) (gL π) d i < gB π ∧ 1 ≤ fup (gLe π) (gL π) n i ∧ fup (gLe π) (gL π) n i ≤ 8 ∧ ∀ k, k < fup (gLe π) (gL π) n i → fup (gWd π) (gL π) w i k < 16
  by_cases e : i = gL π
  · rw [e, fup_s, fup_s, fup_s]
    exact ⟨hd, h1n, h8n, hw⟩
  · rw [fup_n e, fup_n e, fup_n e]
    exact h5 i (by have : i < gL π + 1 := hi; omega)
theorem L_letter (h : RTx tx N tb mt) (ok : OkP π) (hP : RPc π (p_beds, p_letters, p_readers, pf, pd, pl, pw, ph)) (hQ : RPm π nB nL nR nb nl nr) (hL : gL π < 6) {s : Ts} (hS : RT2 tx N s ca ck cp ma mb mk) : ∃ s' pd' pl' pw' nl' L1 L2 ca1 cs1 ck1 cp1 ca2 cs2 ck2 cp2 ma1 mb1 mk1 ma2 mb2 mk2, f_X2_readLetter p_beds p_letters pd pl pw tb (nI N) ca cs ck cp = some (L1, pd', pl', pw', ca1, cs1, ck1, cp1) ∧ f_X7_need tb (nI N) ca1 cs1 ck1 cp1 59 = some (ca2, cs2, ck2, cp2) ∧ f_X10_readLetter (nI N) ma mb mk mt nl nB nL = some (ma1, mb1, mk1, nl', L2) ∧ f_X10_sign (nI N) ma1 mb1 mk1 mt 59 = some (ma2, mb2, mk2) ∧ RT2 tx N s' ca2 ck2 cp2 ma2 mb2 mk2 ∧ adv s s' ∧ ∀ r', s' = .inl r' → ∃ d n w, RPc (aLet π d n w) (p_beds, L1, p_readers, pf, pd', pl', pw', ph) ∧ RPm (aLet π d n w) nB L2 nR nb nl' nr ∧ OkP (aLet π d n w) := by
  have hB := ok.1
  obtain ⟨v, s1, ca1, cs1, ck1, cp1, ma1, mb1, mk1, e1, e2, hS1, ha1, hv1, -, -, -⟩ := L_num (cs := cs) h (lo := 0) (B := gB π) (by omega) (by omega) hS
  have e1 : f_X7_number tb (nI N) ca cs ck cp 0 (nI (gB π) - 1) = _ := e1
  have e2 : f_X10_readNumber (nI N) ma mb mk mt 0 (nI (gB π) - 1) = _ := e2
  obtain ⟨s2, pl', pw', nl', L1, L2, ca3, cs3, ck3, cp3, ca4, cs4, ck4, cp4, ma3, mb3, mk3, ma4, mb4, mk4, g1, g2, g3, g4, g5, g6, g7⟩ := L_words (tx := tx) (mt := mt) h hL (pb := p_beds) (nB := nB) (pd := upd pd (gL π) (nI v)) (pl := pl) 7 0 rfl FU FU s1 (fun _ => 0) pw (upd nl (10 * gL π) (nI v)) ca1 cs1 ck1 cp1 ma1 mb1 mk1 (Nat.le_of_lt (FU_gt (by omega))) (Nat.le_of_lt (FU_gt (by omega))) hS1 (fun k hk => absurd hk (Nat.not_lt_zero _))
  refine ⟨s2, upd pd (gL π) (nI v), pl', pw', nl', L1, L2, ca3, cs3, ck3, cp3, ca4, cs4, ck4, cp4, ma3, mb3, mk3, ma4, mb4, mk4, ?_, g2, ?_, g4, g5, ?_, fun r' hr' => ?_⟩
  · unfold f_X2_readLetter
    rw [hP.2.1, hP.1, show (6 : Int32) = nI 6 from rfl, ite_lt (by omega) (by omega), if_pos hL, e1, b5_s, ixb_nI (by omega) (by omega), if_pos rfl, nI_cl (by omega), ← hP.1]
    exact g1
  · unfold f_X10_readLetter f_X10_readBedTold
    rw [hQ.1, hQ.2.1, e2, b4_s, b4_s, show (10 : Int32) * nI (gL π) = nI (10 * gL π) from nI_mul 10 _, ixb_nI (by omega) (by omega), if_pos rfl, nI_cl (by omega), ← hQ.1]
    exact g3
  · refine ⟨fun x hx => g6.1 x (ha1.1 x hx), fun r r' hr hr' => ?_⟩
    cases s1 with
    | inr x => have := g6.1 x rfl; rw [hr'] at this; cases this
    | inl r1 => have a1 := ha1.2 r r1 hr rfl; have a2 := g6.2 r1 r' rfl hr'; omega
  · obtain ⟨rfl, rfl, n, w', k1, k2, rfl, k4, k5, k6, k7⟩ := g7 r' hr'
    have hv : v < gB π := by
      cases s1 with
      | inr x => have := g6.1 x rfl; rw [hr'] at this; cases this
      | inl r1 => exact (hv1 r1 rfl).2
    exact ⟨v, n, w', aLet_c hP ok (fun k hk => (k4 k hk).1) k6, aLet_m hQ ok (by rw [k7 _ (by omega), upd_s]) k5 (fun k hk => (k4 k hk).2.2) (fun i hi => by rw [k7 i (by omega), upd_n (by omega)]), aLet_ok ok hL hv k1 k2 (fun k hk => (k4 k hk).2.1)⟩
theorem m_g105F {n1 th tp op fa bs ls rs cds wk rst wr im : Int32} {rf be le re now bk : Nat → Int32} {K x2 x3} {f q : Nat} (hf : f ≤ 600) : f_X10_garden_105 mt n1 K x2 x3 th rf tp (nI N) (nI q) (nI f) mk op fa nb nl nr be le re nB nL nR bs ls rs cds wk rst now bk wr im = f_X10_garden_136 mt n1 th rf tp (nI N) (nI q) (nI f) mk op fa nb nl nr be le re nB nL nR bs ls rs cds wk rst now bk wr im := by
  unfold f_X10_garden_105
  rw [m_fine0 hf, b1_s, if_pos rfl]
theorem m_g44F {n1 th tp op fa bs ls rs cds wk rst wr im : Int32} {rf be le re now bk : Nat → Int32} {m : Nat} {x2 : Int32} {f q : Nat} (hf : f ≤ 600) : f_X10_garden_44 mt n1 (m + 1) x2 th rf tp (nI N) (nI q) (nI f) mk op fa nb nl nr be le re nB nL nR bs ls rs cds wk rst now bk wr im = f_X10_garden_136 mt n1 th rf tp (nI N) (nI q) (nI f) mk op fa nb nl nr be le re nB nL nR bs ls rs cds wk rst now bk wr im := by
  rw [f_X10_garden_44, m_fine0 hf, b1_s, if_pos rfl]
end TD
