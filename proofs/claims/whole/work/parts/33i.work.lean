/-! ===== a work ===== -/
section KX
variable {π : Pg} {σ : Sg} {c : List Tk} {tb mt : Nat → Int32} {p_beds p_letters p_readers m_beds m_letters m_readers : Int32} {p_far p_drain p_length p_words p_home m_bed m_letter m_reader l_code m_code m_ofCode : Nat → Int32} {l_length m_codes : Int32}
variable {x_missing x_misused m_thrown m_size m_at m_bad m_badKind m_opens m_faultAt m_newSteps m_refusedSteps m_begun m_done m_refusedNow w_length w_begun w_refused s_year s_wet s_lost s_eaten s_tied s_ripeMany : Int32} {m_refused m_stack m_facts m_newStep m_step m_now m_s m_past w_kind w_first w_second w_rounds s_gone s_place s_heard s_many s_lying s_ripe l_values l_stack : Nat → Int32}
theorem m_kept {n1 th tp sz ma mb mk op fa nss rst bg dn rfn : Int32} {rf st fc ns stp : Nat → Int32} {w : Nat} (hw : w < 16) : ∃ past', f_X10_work_123 mt m_bed m_letter m_beds m_letters m_readers m_code m_ofCode m_codes n1 FU 0 th rf tp sz ma mb mk op fa st fc ns stp nss (nI w) rst bg dn rfn m_now m_s m_past = b1 (f_X10_take m_now m_s) (fun c1 => b6 (f_X10_goesSteps 12 m_bed m_letter m_beds m_letters m_readers m_code m_ofCode st m_codes fc stp 0 0 0 c1 0 nss) (fun c2 c3 c4 c5 c6 c7 => b1 (f_X10_copies 165 c7 165 m_now 165) (fun c8 => some (c5, th, rf, tp, sz, ma, mb, mk, op, fa, c2, c3, ns, stp, nss, nI w + 1, c6, c4, c5, c6, c8, c7, past')))) ∧ (∀ i, i < 165 → past' (165 * w + i) = m_now i) ∧ ∀ i, i < 165 * w → past' i = m_past i := by
  obtain ⟨c', e, q⟩ := loopR (A := Unit) (C := Nat → Int32) (F := fun m p x => f_X10_work_123 mt m_bed m_letter m_beds m_letters m_readers m_code m_ofCode m_codes n1 m x th rf tp sz ma mb mk op fa st fc ns stp nss (nI w) rst bg dn rfn m_now m_s p) (B := 165) (step := fun _ _ => ()) (fin := fun past' => b1 (f_X10_take m_now m_s) (fun c1 => b6 (f_X10_goesSteps 12 m_bed m_letter m_beds m_letters m_readers m_code m_ofCode st m_codes fc stp 0 0 0 c1 0 nss) (fun c2 c3 c4 c5 c6 c7 => b1 (f_X10_copies 165 c7 165 m_now 165) (fun c8 => some (c5, th, rf, tp, sz, ma, mb, mk, op, fa, c2, c3, ns, stp, nss, nI w + 1, c6, c4, c5, c6, c8, c7, past'))))) (Q := fun k _ p => (∀ i, i < k → p (165 * w + i) = m_now i) ∧ ∀ i, i < 165 * w → p i = m_past i) (fun m p => by
      show f_X10_work_123 mt m_bed m_letter m_beds m_letters m_readers m_code m_ofCode m_codes n1 (m + 1) (nI 165) th rf tp sz ma mb mk op fa st fc ns stp nss (nI w) rst bg dn rfn m_now m_s p = _
      rw [f_X10_work_123, if_pos (by decide)]) (fun m _ p k hk hc => by
      refine ⟨upd p (165 * w + k) (m_now k), ?_, fun i hi => ?_, fun i hi => ?_⟩
      · show f_X10_work_123 mt m_bed m_letter m_beds m_letters m_readers m_code m_ofCode m_codes n1 (m + 1) (nI k) th rf tp sz ma mb mk op fa st fc ns stp nss (nI w) rst bg dn rfn m_now m_s p = f_X10_work_123 mt m_bed m_letter m_beds m_letters m_readers m_code m_ofCode m_codes n1 m (nI (k + 1)) th rf tp sz ma mb mk op fa st fc ns stp nss (nI w) rst bg dn rfn m_now m_s _
        rw [f_X10_work_123, if_neg (by rw [show (165 : Int32) = nI 165 from rfl, nI_leJ (by omega) (by omega)]; omega), show (165 : Int32) * nI w + nI k = nI (165 * w + k) by rw [show (165 : Int32) = nI 165 from rfl, nI_mul, nI_add], ixb_nI (by omega) (by omega), if_pos rfl, ixb_nI (by omega) (by omega), if_pos rfl, nI_cl (by omega), nI_cl (by omega), nI_1]
      · by_cases h9 : i = k
        · rw [h9, upd_s]
        · rw [upd_n (by omega)]; exact hc.1 i (by omega)
      · rw [upd_n (by omega)]; exact hc.2 i hi) 165 0 FU () m_past (by omega) (FU_gt (by omega)) ⟨fun i hi => absurd hi (Nat.not_lt_zero _), fun _ _ => rfl⟩
  exact ⟨c', e, q.1, q.2⟩
theorem k_work {T : Nat} {L : List Sg} (hT : RT T tb mt) (hb : ByT tb) (hc : RC x_missing x_misused m_refused) (ok : OkP π) (hP : RPc π (p_beds, p_letters, p_readers, p_far, p_drain, p_length, p_words, p_home)) (hQ : RPm π m_beds m_letters m_readers m_bed m_letter m_reader) (hS : RS π σ (s_year, s_wet, s_lost, s_eaten, s_tied, s_ripeMany, s_gone, s_place, s_heard, s_many, s_lying, s_ripe)) (os : OkT π σ) (hM : RM π σ m_now) (hR : RLc c l_code l_length) (hR2 : RLm c m_code m_ofCode m_codes) (okl : OkL c) (hL : OkL2 π L) (h16 : L.length ≤ 16) (hpa : RPa π L m_past) (n1 : Int32) :
    (∃ rf, f_X9_needText x_misused (nI T) n1 150 = some (2, x_misused + 1) ∧ f_X10_work m_thrown m_refused (nI T) m_size m_at m_bad m_badKind m_opens m_faultAt mt m_bed m_letter m_beds m_letters m_readers m_code m_ofCode m_stack m_codes m_facts m_newStep m_step m_newSteps (nI L.length) m_refusedSteps m_begun m_done m_refusedNow m_now m_s m_past n1 = some (0, 1, rf, nI T, m_size, m_at, m_bad, m_badKind, m_opens, m_faultAt, m_stack, m_facts, m_newStep, m_step, m_newSteps, nI L.length, m_refusedSteps, m_begun, m_done, m_refusedNow, m_now, m_s, m_past) ∧ RC x_missing (x_misused + 1) rf) ∨
    (f_X9_needText x_misused (nI T) n1 150 = some (0, x_misused) ∧
      ((L.length = 16 ∧ f_X10_work m_thrown m_refused (nI T) m_size m_at m_bad m_badKind m_opens m_faultAt mt m_bed m_letter m_beds m_letters m_readers m_code m_ofCode m_stack m_codes m_facts m_newStep m_step m_newSteps (nI L.length) m_refusedSteps m_begun m_done m_refusedNow m_now m_s m_past n1 = some (-20, 0, m_refused, 0, n1, 0, -1, m_badKind, 0, -1, m_stack, m_facts, m_newStep, m_step, m_newSteps, nI L.length, m_refusedSteps, m_begun, m_done, m_refusedNow, m_now, m_s, m_past)) ∨
      (L.length < 16 ∧
        ((∃ K F S len ca cs k f ma op ns nss, f_X8_read w_kind w_first w_second w_length tb n1 0 0 0 (-1) p_beds p_letters p_readers = some (K, F, S, len, ca, cs, nI k, nI f) ∧ f_X7_isSound (nI k) = some 0 ∧ f_X10_work m_thrown m_refused (nI T) m_size m_at m_bad m_badKind m_opens m_faultAt mt m_bed m_letter m_beds m_letters m_readers m_code m_ofCode m_stack m_codes m_facts m_newStep m_step m_newSteps (nI L.length) m_refusedSteps m_begun m_done m_refusedNow m_now m_s m_past n1 = some (nI k - 10, 0, m_refused, 0, n1, ma, nI f, nI k, op, nI f, m_stack, m_facts, ns, m_step, nss, nI L.length, m_refusedSteps, m_begun, m_done, m_refusedNow, m_now, m_s, m_past)) ∨
        (∃ K F S len ca cs xs ma mk op st fa ns sp nss now' s' past', f_X8_read w_kind w_first w_second w_length tb n1 0 0 0 (-1) p_beds p_letters p_readers = some (K, F, S, len, ca, cs, 0, -1) ∧ Ans π xs (f_X8_perform K F S w_rounds len w_begun w_refused s_year s_wet s_lost s_eaten s_tied s_ripeMany s_gone s_place s_heard s_many s_lying s_ripe p_beds p_letters p_readers p_far p_drain p_length p_words l_code l_values l_stack l_length) ∧ f_X10_work m_thrown m_refused (nI T) m_size m_at m_bad m_badKind m_opens m_faultAt mt m_bed m_letter m_beds m_letters m_readers m_code m_ofCode m_stack m_codes m_facts m_newStep m_step m_newSteps (nI L.length) m_refusedSteps m_begun m_done m_refusedNow m_now m_s m_past n1 = some (nI xs.2.1, 0, m_refused, 0, n1, ma, -1, mk, op, -1, st, fa, ns, sp, nss, nI (L.length + 1), nI xs.2.2.1, nI xs.1, nI xs.2.1, nI xs.2.2.1, now', s', past') ∧ RM π xs.2.2.2 now' ∧ RPa π (σ :: L) past'))))) := by
  have h600 := hT.1
  unfold f_X10_work
  rw [show (150 : Int32) = nI 150 from rfl, c_text (by omega) (by omega)]
  by_cases h : 0 ≤ n1 ∧ n1 ≤ nI (min 150 T)
  case neg =>
    refine Or.inl ⟨upd m_refused 1 (m_refused 1 + 1), by rw [if_neg h], ?_, rc_mu hc⟩
    by_cases h1 : n1 < 0
    · rw [if_pos h1]; rfl
    · rw [if_neg h1]
      by_cases h2 : nI T < n1
      · rw [if_pos h2]; rfl
      · rw [if_neg h2]
        by_cases h3 : nI 150 < n1
        · rw [if_pos h3]; rfl
        · obtain ⟨N, hN, rfl⟩ := inN (B := T) (by omega) (Int32.not_lt.mp h1) (Int32.not_lt.mp h2)
          rw [nI_ltJ (by omega) (by omega)] at h3
          exact absurd ⟨nI_pos' (by omega), (nI_leI (by omega) (by omega)).mpr (by omega)⟩ h
  obtain ⟨N, hN, rfl⟩ := inN (B := min 150 T) (by omega) h.1 h.2
  obtain ⟨tx, hx⟩ := text_of hT hb (show N ≤ T by omega)
  refine Or.inr ⟨if_pos h, ?_⟩
  rw [if_neg (Int32.not_lt.mpr (nI_pos' (by omega))), if_neg (by rw [nI_ltJ (by omega) (by omega)]; omega), if_neg (by rw [nI_ltJ (by omega) (by omega)]; omega)]
  unfold f_X10_work_30
  rw [m_may1, b3_s, if_neg (show ¬ (1 : Int32) = 0 by decide)]
  unfold f_X10_begins
  rw [b6_s]
  by_cases h17 : L.length = 16
  · refine Or.inl ⟨h17, ?_⟩
    rw [if_pos (by rw [h17]; rfl)]
    rfl
  refine Or.inr ⟨by omega, ?_⟩
  have hn16 : ¬ nI L.length = 16 := fun h9 => h17 ((nI_eqI (by omega) (by omega)).mp (show nI L.length = nI 16 from h9))
  rw [if_neg hn16]
  have hS0 := rt_at (tx := tx) (N := N) (mk := m_badKind) (Nat.zero_le N)
  obtain ⟨s1, K, F, S, len, ca1, cs1, ck1, cp1, ca2, cs2, ck2, cp2, ma1, mb1, mk1, op1, P1, nsz1, e1, e2, e3, hS1, hl1, hR1⟩ := L_tloop (n1 := nI N) (th := 0) (tp := 0) (fa := -1) (m_codes := m_codes) (wk := nI L.length) (rst := m_refusedSteps) (bg := m_begun) (dn := m_done) (rfn := m_refusedNow) (m_bed := m_bed) (m_letter := m_letter) (m_code := m_code) (m_ofCode := m_ofCode) (rf := m_refused) (st := m_stack) (fc := m_facts) (stp := m_step) (now := m_now) (ss := m_s) (past := m_past) (q1x := f_X8_readSteps 29) (q3 := f_X8_readAgain 29) hx (by omega) (PSt_all hx (by omega) ok hP.1 hP.2.1 hP.2.2.1 hQ.1 hQ.2.1 hQ.2.2.1 6 0 29 30 rfl (by decide) (by decide)) N 0 FU FU (sk tx N 0) 0 0 w_kind w_first w_second m_newStep (nI 0) 0 (nI 0) m_badKind (by omega) (FU_gt (by omega)) (FU_gt (by omega)) (Nat.zero_le _) (Nat.zero_le _) (Nat.zero_le _) hS0
  have e1 : f_X8_readSteps 30 w_kind w_first w_second 0 tb (nI N) 0 0 0 (-1) p_beds p_letters p_readers 0 = _ := e1
  have hrd : f_X8_read w_kind w_first w_second w_length tb (nI N) 0 0 0 (-1) p_beds p_letters p_readers = some (K, F, S, len, ca2, cs2, ck2, cp2) := by
    unfold f_X8_read
    rw [e1, b8_s, e2, b4_s]
  have e3 : f_X10_work_68 mt m_bed m_letter m_beds m_letters m_readers m_code m_ofCode m_codes (nI N) FU 0 m_refused 0 (nI N) 0 (-1) m_badKind 0 (-1) m_stack m_facts m_newStep m_step 0 (nI L.length) m_refusedSteps m_begun m_done m_refusedNow m_now m_s m_past = _ := e3
  rw [hrd, e3]
  unfold f_X10_work_89 f_X10_result
  cases s1 with
  | inr x =>
    obtain ⟨k, f⟩ := x
    obtain ⟨g1, g3, gf, rfl, rfl, rfl, rfl, q3, hq3, rfl⟩ := hS1
    have hk := ne0 g1 g3
    refine Or.inl ⟨K, F, S, len, ca2, cs2, k, f, nI q3, op1, P1, nsz1, rfl, ?_, ?_⟩
    · unfold f_X7_isSound
      rw [if_neg hk]
    · rw [m_fine0 (by omega), b1_s, if_pos rfl, b2_s, ite_M (by omega)]
  | inl r =>
    obtain ⟨hr0, rfl, Ls, hok, hlen, hnsz, hlc, hlm, -, -, hb1, hb2⟩ := hR1 r rfl
    obtain ⟨rfl, rfl, rfl, ⟨p, hp, rfl, ep⟩, q, hq, rfl, eq⟩ := hS1
    have hr := sk_le (tx := tx) hp
    rw [ep] at hr
    rw [Nat.zero_add] at hlen hnsz hb1 hb2
    subst hlen hnsz
    refine Or.inr ?_
    obtain ⟨sp, e4, q4⟩ := m_copies (v := P1) (w := m_step) (N := szs (szM 6) Ls) (a := 150) (b := 150) (by omega) (by omega) (by omega)
    rw [m_fine1, b1_s, if_neg (show ¬ (1 : Int32) = 0 by decide), b2_s, if_pos rfl, e4, b1_s]
    obtain ⟨past', e5, qa, qb⟩ := m_kept (mt := mt) (m_beds := m_beds) (m_letters := m_letters) (m_readers := m_readers) (m_bed := m_bed) (m_letter := m_letter) (m_code := m_code) (m_ofCode := m_ofCode) (m_codes := m_codes) (n1 := nI N) (th := 0) (tp := 0) (sz := nI N) (ma := nI q) (mb := -1) (mk := mk1) (op := nI 0) (fa := -1) (nss := nI (szs (szM 6) Ls)) (rst := m_refusedSteps) (bg := m_begun) (dn := m_done) (rfn := m_refusedNow) (rf := m_refused) (st := m_stack) (fc := m_facts) (ns := P1) (stp := sp) (m_now := m_now) (m_s := m_s) (m_past := m_past) (w := L.length) (by omega)
    obtain ⟨s2, e6, hM2⟩ := m_take (m_s := m_s) ok os.1 hM
    have hlm2 : lays (LM sp 6) (szM 6) Ls 0 := lays_congr _ _ (fun e he j h1 h2 => LM_congr 6 e j (fun q hq1 hq2 => by rw [q4, if_pos (by omega)])) hlm
    obtain ⟨st2, fa2, bg2, dn2, rf2, s3, e7, hMR⟩ := m_goL (P := sp) hQ ok hR2 okl 6 12 (by decide) Ls 0 (0, 0, 0, σ) 0 0 0 s2 m_stack m_facts hlm2 hok (by omega) ⟨rfl, rfl, rfl, hM2, os, Nat.zero_le _⟩
    rw [Nat.zero_add] at e7
    have e7 : f_X10_goesSteps 12 m_bed m_letter m_beds m_letters m_readers m_code m_ofCode m_stack m_codes m_facts sp 0 0 0 s2 0 (nI (szs (szM 6) Ls)) = _ := e7
    obtain ⟨rfl, rfl, rfl, hM3, os3, hx200⟩ := hMR
    obtain ⟨n3, e8, q8⟩ := m_copies (v := s3) (w := m_now) (N := 165) (a := 165) (b := 165) (Nat.le_refl _) (Nat.le_refl _) (by decide)
    have e8 : f_X10_copies 165 s3 165 m_now 165 = _ := e8
    rw [e5, e6, b1_s, e7, b6_s, e8, b1_s, nI_1]
    refine ⟨K, F, S, nI (szs (szC 6) Ls), nI p, cs2, exL (exE π c 6) Ls (0, 0, 0, σ), nI q, mk1, nI 0, st2, fa2, P1, sp, nI (szs (szM 6) Ls), n3, s3, past', rfl, c_perform hS hP ok os hR okl (by omega) hlc hok rfl, rfl, RM_congr ok os3.1 hM3 (fun i hi => by rw [q8, if_pos hi]), RM_congr ok os.1 hM (fun i hi => qa i hi), RPa_congr ok L hL hpa qb⟩
end KX
