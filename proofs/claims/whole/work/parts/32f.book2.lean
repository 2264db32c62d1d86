/-! ===== book ===== -/
section KV
variable {x_missing x_misused m_thrown t_end t_at t_start t_faultKind t_faultPlace b2_lines m_size m_at m_bad m_badKind m_opens m_written m_faultAt : Int32} {m_refused tb mt b2_last m_newBook m_book b_last : Nat → Int32} {b_lines : Int32}
theorem c_clear : ∃ bl, f_X0_clear b_last b_lines = some (bl, 0) ∧ ∀ b, b < 6 → bl b = -1 := by
  unfold f_X0_clear
  obtain ⟨c, e, q⟩ := loopR (A := Unit) (C := Nat → Int32) (F := fun m c x => f_X0_clear_7 m x c 0) (B := 6) (step := fun _ _ => ()) (fin := fun c => some (c, 0)) (Q := fun k _ c => ∀ b, b < k → c b = -1) (fun m c => by
      show f_X0_clear_7 (m + 1) (nI 6) c 0 = _
      rw [f_X0_clear_7, if_pos (by decide)]) (fun m _ c k hk hc => by
      refine ⟨upd c k (-1), ?_, fun b hb => ?_⟩
      · show f_X0_clear_7 (m + 1) (nI k) c 0 = f_X0_clear_7 m (nI (k + 1)) _ 0
        rw [f_X0_clear_7, if_neg (by rw [show (6 : Int32) = nI 6 from rfl, nI_leJ (by omega) (by omega)]; omega), ixb_nI (by omega) (by omega), if_pos rfl, nI_cl (by omega), nI_1]
      · by_cases h : b = k
        · rw [h, upd_s]
        · rw [upd_n h]; exact hc b (by omega)) 6 0 FU () b_last (by omega) (FU_gt (by omega)) (fun b hb => absurd hb (Nat.not_lt_zero _))
  exact ⟨c, e, q⟩
theorem m_book46 {n1 th tp sz at_ bad bk op fa wr be : Int32} {rf bo : Nat → Int32} : ∃ nb, f_X10_book_46 mt be n1 FU 0 th rf tp sz at_ bad bk op fa m_newBook bo wr = f_X10_book_67 mt be n1 FU 0 th rf tp sz at_ bad bk op fa nb bo wr ∧ ∀ b, b < 6 → nb b = -1 := by
  obtain ⟨c, e, q⟩ := loopR (A := Unit) (C := Nat → Int32) (F := fun m c x => f_X10_book_46 mt be n1 m x th rf tp sz at_ bad bk op fa c bo wr) (B := 6) (step := fun _ _ => ()) (fin := fun c => f_X10_book_67 mt be n1 FU 0 th rf tp sz at_ bad bk op fa c bo wr) (Q := fun k _ c => ∀ b, b < k → c b = -1) (fun m c => by
      show f_X10_book_46 mt be n1 (m + 1) (nI 6) th rf tp sz at_ bad bk op fa c bo wr = _
      rw [f_X10_book_46, if_pos (by decide)]) (fun m _ c k hk hc => by
      refine ⟨upd c k (-1), ?_, fun b hb => ?_⟩
      · show f_X10_book_46 mt be n1 (m + 1) (nI k) th rf tp sz at_ bad bk op fa c bo wr = f_X10_book_46 mt be n1 m (nI (k + 1)) th rf tp sz at_ bad bk op fa _ bo wr
        rw [f_X10_book_46, if_neg (by rw [show (6 : Int32) = nI 6 from rfl, nI_leJ (by omega) (by omega)]; omega), ixb_nI (by omega) (by omega), if_pos rfl, nI_cl (by omega), nI_1]
      · by_cases h : b = k
        · rw [h, upd_s]
        · rw [upd_n h]; exact hc b (by omega)) 6 0 FU () m_newBook (by omega) (FU_gt (by omega)) (fun b hb => absurd hb (Nat.not_lt_zero _))
  exact ⟨c, e, q⟩
theorem k_book {T B : Nat} (hT : RT T tb mt) (hb : ByT tb) (hB : B ≤ 6) (hfp : t_faultPlace = m_faultAt) (hc : RC x_missing x_misused m_refused) (n1 : Int32) :
    ∃ ex r mu T2 te ta ts tk tp bl ln bo rf sz ma bad bk op nb bk2 wr, f_X9_book x_misused tb (nI T) t_end t_at t_start t_faultKind t_faultPlace (nI B) b2_last b2_lines n1 = some (ex, r, mu, nI T2, te, ta, ts, tk, tp, bl, ln, bo) ∧ f_X10_book m_thrown m_refused (nI T) m_size m_at m_bad m_badKind m_opens m_faultAt mt (nI B) m_newBook m_book m_written n1 = some (r, if ex = 0 then 0 else 1, rf, nI T2, sz, ma, bad, bk, op, tp, nb, bk2, wr) ∧ (ex = 0 ∨ ex = 2) ∧ RC x_missing mu rf ∧ T2 ≤ T ∧ (bo = true → ex = 0 ∧ wr = ln ∧ ∀ b, b < 6 → bk2 b = bl b) ∧ (bo = false → bk2 = m_book ∧ wr = m_written) := by
  have h600 := hT.1
  unfold f_X9_book f_X10_book
  rw [show (60 : Int32) = nI 60 from rfl, c_text (by omega) (by omega)]
  by_cases h : 0 ≤ n1 ∧ n1 ≤ nI (min 60 T)
  case neg =>
    refine ⟨2, 0, x_misused + 1, T, t_end, t_at, t_start, t_faultKind, t_faultPlace, b2_last, b2_lines, false, upd m_refused 1 (m_refused 1 + 1), m_size, m_at, m_bad, m_badKind, m_opens, m_newBook, m_book, m_written, ?_, ?_, Or.inr rfl, rc_mu hc, Nat.le_refl _, fun h => (by cases h), fun _ => ⟨rfl, rfl⟩⟩
    · rw [if_neg h]; rfl
    · rw [hfp]
      by_cases h1 : n1 < 0
      · rw [if_pos h1]; rfl
      · rw [if_neg h1]
        by_cases h2 : nI T < n1
        · rw [if_pos h2]; rfl
        · rw [if_neg h2]
          by_cases h3 : nI 60 < n1
          · rw [if_pos h3]; rfl
          · obtain ⟨N, hN, rfl⟩ := inN (B := T) (by omega) (Int32.not_lt.mp h1) (Int32.not_lt.mp h2)
            rw [nI_ltJ (by omega) (by omega)] at h3
            exact absurd ⟨nI_pos' (by omega), (nI_leI (by omega) (by omega)).mpr (by omega)⟩ h
  obtain ⟨N, hN, rfl⟩ := inN (B := min 60 T) (by omega) h.1 h.2
  obtain ⟨tx, hx⟩ := text_of hT hb (show N ≤ T by omega)
  obtain ⟨bl0, e0, q0⟩ := c_clear (b_last := b2_last) (b_lines := b2_lines)
  obtain ⟨nb0, e1, q1⟩ := m_book46 (mt := mt) (m_newBook := m_newBook) (n1 := nI N) (th := 0) (tp := 0) (sz := nI N) (at_ := 0) (bad := -1) (bk := m_badKind) (op := 0) (fa := -1) (wr := m_written) (be := nI B) (rf := m_refused) (bo := m_book)
  obtain ⟨s', bl, nb, L, L2, ca, cs, ck, cp, ma, mb, mk', f1, f2, f3, f4⟩ := L_book (n1 := nI N) (th := 0) (tp := 0) (op := 0) (fa := -1) (wr := m_written) (rf := m_refused) (bk := m_book) hx (by omega) hB N 0 FU FU (sk tx N 0) 0 0 bl0 nb0 0 m_badKind (by omega) (by omega) rfl rfl (by omega) (by omega) (FU_gt (by omega)) (FU_gt (by omega)) (fun b hb => by rw [q0 b hb, q1 b hb])
  have f1 : f_X0_read_6 tb (nI N) (nI B) FU 0 bl0 0 0 0 0 (-1) = _ := f1
  have f2 : f_X10_book_67 mt (nI B) (nI N) FU 0 0 m_refused 0 (nI N) 0 (-1) m_badKind 0 (-1) nb0 m_book m_written = _ := f2
  have ec : f_X0_read b2_last b2_lines tb (nI N) 0 0 0 (-1) (nI B) = some (bl, nI L, ca, cs, ck, cp) := by
    unfold f_X0_read
    rw [e0, b2_s]
    exact f1
  have em : f_X10_book_29 mt (nI B) (nI N) 1 0 m_refused (nI T) m_size m_at m_bad m_badKind m_opens m_faultAt m_newBook m_book m_written = f_X10_book_168 mt (nI B) (nI N) (nI L2) 0 m_refused 0 (nI N) ma mb mk' 0 (-1) nb m_book m_written := by
    unfold f_X10_book_29
    rw [m_may1, b3_s, if_neg (show ¬ (1 : Int32) = 0 by decide)]
    unfold f_X10_begins
    rw [b6_s, e1, f2]
  rw [if_pos h, b2_s, if_pos rfl]
  unfold f_X7_open f_X7_empty
  rw [b5_s, ec, b6_s, b1_s, if_neg (Int32.not_lt.mpr (nI_pos' (by omega))), if_neg (by rw [nI_ltJ (by omega) (by omega)]; omega), if_neg (by rw [nI_ltJ (by omega) (by omega)]; omega), em]
  unfold f_X10_book_168 f_X10_result f_X7_isSound f_X7_answer
  cases s' with
  | inl r =>
    obtain ⟨rfl, rfl, rfl, -, -⟩ := f3
    obtain ⟨rfl, hnb⟩ := f4 r rfl
    obtain ⟨bk2, e9, q9⟩ := m_copies (v := nb) (w := m_book) (N := 6) (a := 6) (b := 6) (Nat.le_refl _) (Nat.le_refl _) (by decide)
    refine ⟨0, nI L2, x_misused, 0, nI N, ca, cs, 0, -1, bl, nI L2, true, m_refused, nI N, ma, -1, mk', 0, nb, bk2, nI L2, rfl, ?_, Or.inl rfl, hc, Nat.zero_le _, fun _ => ⟨rfl, rfl, fun b hb => by rw [q9, if_pos hb]; exact hnb b hb⟩, fun h => by cases h⟩
    rw [m_fine1, b1_s, if_neg (show ¬ (1 : Int32) = 0 by decide), b2_s, if_pos rfl, show (6 : Int32) = nI 6 from rfl, e9, b1_s]
    rfl
  | inr x =>
    obtain ⟨k, f⟩ := x
    obtain ⟨g1, g3, gf, rfl, rfl, rfl, rfl, q3, hq3, rfl⟩ := f3
    have hk := ne0 g1 g3
    refine ⟨0, nI k - 10, x_misused, 0, nI N, ca, cs, nI k, nI f, bl, nI L, false, m_refused, nI N, nI q3, nI f, nI k, 0, nb, m_book, m_written, ?_, ?_, Or.inl rfl, hc, Nat.zero_le _, fun h => (by cases h), fun _ => ⟨rfl, rfl⟩⟩
    · rw [if_neg hk, b1_s, if_pos rfl, b1_s]; rfl
    · rw [m_fine0 (by omega), b1_s, if_pos rfl, b2_s, ite_M (by omega)]
      rfl
end KV
