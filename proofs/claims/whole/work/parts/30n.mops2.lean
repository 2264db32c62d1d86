/-! ===== the model's row: steps ===== -/
section MP
variable {π : Pg} {σ : Sg} {m_s m_bed m_letter m_reader : Nat → Int32} {m_beds m_letters m_readers : Int32}
theorem m_passes (hS : RM π σ m_s) (hP : RPm π m_beds m_letters m_readers m_bed m_letter m_reader) (ok : OkP π) (os : OkS π σ) : ∃ m1, f_X10_passes m_beds m_s = some m1 ∧ RM π (oYear π σ) m1 := by
  have hB := ok.1
  have hL6 := ok.2.1
  have hR5 := ok.2.2.1
  have hl : m_beds = nI (gB π) := hP.1
  have hwt := os.2.1
  unfold f_X10_passes
  obtain ⟨m2, e, ⟨q1, q2⟩⟩ := loopR (A := Sg) (C := Nat → Int32) (F := fun n c x => f_X10_passes_2 m_beds n x c) (B := gB π) (step := oYear1) (fin := fun c => some (upd (upd c 161 (c 161 / 2)) 164 (upd c 161 (c 161 / 2) 164 + 1))) (Q := fun k τ c => OkS π τ ∧ RM π τ c) (fun n c => by
      show f_X10_passes_2 m_beds (n + 1) (nI (gB π)) c = _
      rw [f_X10_passes_2, hl, if_pos (Int32.le_refl _)]; rfl) (fun n τ c b hb hq => by
      obtain ⟨ot, hT⟩ := hq
      obtain ⟨r1, r2, r3, r4, r5, r6, r7, r8, r9, r10, r11, r12⟩ := hT
      have h12 := (ot.2.2.2.2.1 b).1
      have h16 := (ot.2.2.2.2.1 b).2.2
      have okN := okS_year1 ot hb
      have hb6 : b < 6 := by omega
      show ∃ c', f_X10_passes_2 m_beds (n + 1) (nI b) c = f_X10_passes_2 m_beds n (nI (b + 1)) c' ∧ OkS π (oYear1 b τ) ∧ RM π (oYear1 b τ) c'
      rw [f_X10_passes_2, hl]
      simp (disch := omega) only [nI_leJ, lit, nI_add, nI_mul, ixb_nI, nI_cl, if_true, r10 b hb6, nI_eqI]
      rw [if_neg (by omega)]
      cases hL : gLy τ b with
      | nil =>
        refine ⟨c, by rw [List.length_nil, if_pos rfl], okN, ?_⟩
        have e9 : oYear1 b τ = τ := by unfold oYear1; rw [hL]
        rw [e9]; exact ⟨r1, r2, r3, r4, r5, r6, r7, r8, r9, r10, r11, r12⟩
      | cons w r =>
        have hw16 : w < 16 := h16 w (by rw [hL]; exact List.mem_cons_self)
        have hfirst := r11 b 0 hb6 (by rw [hL, List.length_cons]; omega)
        rw [hL] at hfirst
        have hfirst : c (12 + 12 * b) = nI w := hfirst
        rw [hL, List.length_cons] at h12
        have hmany := r10 b hb6
        rw [hL, List.length_cons] at hmany
        rw [List.length_cons, if_neg (by omega), hfirst]
        obtain ⟨m1, e1, p1, p2, p3⟩ := m_grows (m_s := c) (rp := gRp τ) (w := w) r6 r12 ot.2.2.2.2.2.1
        rw [e1, b1_s]
        have hm1 : m1 (84 + b) = nI (r.length + 1) := by rw [p3 _ (by omega)]; exact hmany
        simp (disch := omega) only [hm1, nI_sub, Nat.add_sub_cancel]
        obtain ⟨m3, e3, ⟨-, q3⟩⟩ := loopQ (A := Unit) (C := Nat → Int32) (F := fun n' d x => f_X10_passes_56 (nI (gB π)) (f_X10_passes_2 (nI (gB π)) n) n' (nI b) x d) (B := r.length) (step := fun _ _ => ()) (fin := fun d => f_X10_passes_2 (nI (gB π)) n (nI (b + 1)) d) (Q := fun k _ d => d (84 + b) = nI r.length ∧ ∀ i, d i = if 12 + 12 * b ≤ i ∧ i < 12 + 12 * b + k then upd m1 (84 + b) (nI r.length) (i + 1) else upd m1 (84 + b) (nI r.length) i) (fun n' _ d hq => by
            show f_X10_passes_56 (nI (gB π)) (f_X10_passes_2 (nI (gB π)) n) (n' + 1) (nI b) (nI r.length) d = _
            rw [f_X10_passes_56]
            simp (disch := omega) only [lit, nI_add, nI_mul, ixb_nI, nI_cl, if_true, hq.1, nI_leJ]
            rw [if_pos (Nat.le_refl _)]) (fun n' _ d k hk hq => by
            obtain ⟨g1, g2⟩ := hq
            refine ⟨upd d (12 + 12 * b + k) (d (12 + 12 * b + k + 1)), ?_, ?_, fun i => ?_⟩
            · show f_X10_passes_56 (nI (gB π)) (f_X10_passes_2 (nI (gB π)) n) (n' + 1) (nI b) (nI k) d = f_X10_passes_56 (nI (gB π)) (f_X10_passes_2 (nI (gB π)) n) n' (nI b) (nI (k + 1)) _
              rw [f_X10_passes_56]
              simp (disch := omega) only [lit, nI_add, nI_mul, ixb_nI, nI_cl, if_true, g1, nI_leJ]
              rw [if_neg (by omega)]
            · rw [upd_n (by omega)]; exact g1
            · by_cases e : i = 12 + 12 * b + k
              · subst e
                rw [upd_s, g2, if_neg (by omega), if_pos ⟨by omega, by omega⟩]
              · rw [upd_n e, g2]
                by_cases h9 : 12 + 12 * b ≤ i ∧ i < 12 + 12 * b + k
                · rw [if_pos h9, if_pos ⟨h9.1, by omega⟩]
                · rw [if_neg h9, if_neg (by omega)]) r.length 0 FU () (upd m1 (84 + b) (nI r.length)) (by omega) (FU_gt (by omega)) ⟨upd_s _ _ _, fun i => by rw [if_neg (by omega)]⟩
        refine ⟨m3, e3, okN, ?_⟩
        have fr : ∀ i, (i < 12 + 12 * b ∨ 12 + 12 * b + r.length ≤ i) → i ≠ 84 + b → m3 i = m1 i := fun i hi h9 => by
          rw [q3, if_neg (by omega), upd_n h9]
        have fc : ∀ i, (i < 12 + 12 * b ∨ 12 + 12 * b + r.length ≤ i) → i ≠ 84 + b → (i < 100 ∨ 160 < i) → m3 i = c i := fun i hi h9 h8 => by rw [fr i hi h9, p3 i h8]
        have e9 : oYear1 b τ = (τ.1, gTi τ, gGo τ, gPl τ, gHe τ, fup (gLy τ) b r, oGrow (gRp τ) w) := by unfold oYear1; rw [hL]
        rw [e9]
        refine ⟨?_, ?_, ?_, ?_, fun l hl => ?_, ?_, fun l hl => ?_, fun s hs => ?_, fun s hs => ?_, fun b' hb' => ?_, fun b' k hb' hk => ?_, fun k hk => ?_⟩
        · rw [fc _ (by omega) (by omega) (by omega)]; exact r1
        · rw [fc _ (by omega) (by omega) (by omega)]; exact r2
        · rw [fc _ (by omega) (by omega) (by omega)]; exact r3
        · rw [fc _ (by omega) (by omega) (by omega)]; exact r4
        · rw [fc _ (by omega) (by omega) (by omega)]; exact r5 l hl
        · rw [fr _ (by omega) (by omega)]; exact p1
        · rw [fc _ (by omega) (by omega) (by omega)]; exact r7 l hl
        · rw [fc _ (by omega) (by omega) (by omega)]; exact r8 s hs
        · rw [fc _ (by omega) (by omega) (by omega)]; exact r9 s hs
        · show m3 (84 + b') = nI (fup (gLy τ) b r b').length
          by_cases e : b' = b
          · subst e; rw [q3, if_neg (by omega), upd_s, fup_s]
          · rw [fup_n e, fc _ (by omega) (by omega) (by omega)]; exact r10 b' hb'
        · have hk : k < (fup (gLy τ) b r b').length := hk
          show m3 (12 + 12 * b' + k) = nI ((fup (gLy τ) b r b').getD k 0)
          by_cases e : b' = b
          · subst e
            rw [fup_s] at hk ⊢
            rw [q3, if_pos ⟨by omega, by omega⟩, upd_n (by omega), p3 _ (by omega), Nat.add_assoc, r11 b' (k + 1) hb' (by rw [hL, List.length_cons]; omega), hL, getD_co]
          · rw [fup_n e] at hk ⊢
            have h13 := (ot.2.2.2.2.1 b').1
            rw [fc _ (by omega) (by omega) (by omega)]
            exact r11 b' k hb' hk
        · rw [fr _ (by omega) (by omega)]; exact p2 k hk)
      (gB π) 0 FU σ m_s (by omega) (FU_gt (by omega)) ⟨os, hS⟩
  refine ⟨_, e, ?_⟩
  obtain ⟨r1, r2, r3, r4, r5, r6, r7, r8, r9, r10, r11, r12⟩ := q2
  have keep : (itN oYear1 (gB π) 0 σ).1 = σ.1 := itN_inv (P := fun _ τ => τ.1 = σ.1) (B := gB π) (fun k a _ h => (year1_keep k a).1.trans h) (gB π) 0 σ (by omega) rfl
  have fr : ∀ i, i ≠ 161 → i ≠ 164 → upd (upd m2 161 (m2 161 / 2)) 164 (upd m2 161 (m2 161 / 2) 164 + 1) i = m2 i := fun i h1 h2 => by rw [upd_n h2, upd_n h1]
  refine ⟨?_, ?_, ?_, ?_, fun l hl => ?_, ?_, fun l hl => ?_, fun s hs => ?_, fun s hs => ?_, fun b' hb' => ?_, fun b' k hb' hk => ?_, fun k hk => ?_⟩
  · rw [upd_s, upd_n (by decide), r1]
    show nI (itN oYear1 (gB π) 0 σ).1.1 + 1 = nI (gYr σ + 1)
    rw [keep]; exact nI_1 _
  · rw [upd_n (by decide), upd_s, r2, show (2 : Int32) = nI 2 from rfl]
    show nI (itN oYear1 (gB π) 0 σ).1.2.1 / nI 2 = nI (gWt σ / 2)
    rw [keep]
    exact nI_div (show gWt σ < 2147483648 by omega) (by omega)
  · rw [fr _ (by decide) (by decide), r3]; show nI (itN oYear1 (gB π) 0 σ).1.2.2.1 = _; rw [keep]; rfl
  · rw [fr _ (by decide) (by decide), r4]; show nI (itN oYear1 (gB π) 0 σ).1.2.2.2 = _; rw [keep]; rfl
  · rw [fr _ (by omega) (by omega)]; exact r5 l hl
  · rw [fr _ (by omega) (by omega)]; exact r6
  · rw [fr _ (by omega) (by omega)]; exact r7 l hl
  · rw [fr _ (by omega) (by omega)]; exact r8 s hs
  · rw [fr _ (by omega) (by omega)]; exact r9 s hs
  · rw [fr _ (by omega) (by omega)]; exact r10 b' hb'
  · have h13 := ((okS_years os).2.2.2.2.1 b').1
    have hk : k < (gLy (itN oYear1 (gB π) 0 σ) b').length := hk
    rw [fr _ (by omega) (by omega)]; exact r11 b' k hb' hk
  · have h13 := (okS_years os).2.2.2.2.2.1
    have hk : k < (gRp (itN oYear1 (gB π) 0 σ)).length := hk
    rw [fr _ (by omega) (by omega)]; exact r12 k hk
end MP
