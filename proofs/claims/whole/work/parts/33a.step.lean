/-! ===== a step of a work ===== -/
abbrev St : Type := Nat × Nat × Nat
def OkSt (π : Pg) (t : St) : Prop := t.1 ≤ 5 ∧ t.2.1 ≤ 40 ∧ t.2.2 ≤ 40 ∧ (t.1 = 2 → t.2.1 < gL π) ∧ (t.1 = 3 → t.2.1 < gR π ∧ t.2.2 < gB π) ∧ (t.1 = 4 → t.2.1 < gB π)
def doSt (π : Pg) (c : List Tk) (t : St) (σ : Sg) : Bool × Sg := if t.1 = 0 then oBlow π t.2.1 σ else if t.1 = 1 then (true, oPour π c t.2.1 σ) else if t.1 = 2 then (true, oTie t.2.1 σ) else if t.1 = 3 then (if gPl σ t.2.1 = t.2.2 then (false, σ) else (true, oGo t.2.1 t.2.2 σ)) else if t.1 = 4 then (if gLy σ t.2.1 = [] then (false, σ) else (true, oEat t.2.1 σ)) else if 400 ≤ gYr σ then (false, σ) else (true, oYear π σ)
theorem he_drop (π : Pg) (l : Nat) (σ : Sg) : gHe (oDrop π l σ) = gHe σ := by
  unfold oDrop
  by_cases h : (gLy σ (gDr π l)).length < 12
  · rw [if_pos h]; rfl
  · rw [if_neg h]; rfl
theorem he_run (π : Pg) (l : Nat) : ∀ (N k : Nat) (σ : Sg), gHe (itN (fun _ τ => oDrop π l τ) N k σ) = gHe σ := by
  intro N
  induction N with
  | zero => intro k σ; rfl
  | succ N ih => intro k σ; show gHe (itN _ N (k + 1) (oDrop π l σ)) = _; rw [ih, he_drop]
theorem he_pour (π : Pg) (c : List Tk) (N : Nat) (σ : Sg) : gHe (oPour π c N σ) = gHe σ := by
  refine itN_inv (step := oPour1 π c N) (P := fun _ p => gHe p = gHe σ) (B := gL π) (fun l p _ hp => ?_) (gL π) 0 (oWet N σ) (by omega) rfl
  show gHe (oPour1 π c N l p) = gHe σ
  unfold oPour1
  by_cases e : gTi p l = true
  · rw [if_pos e]; exact hp
  · rw [if_neg e]; exact (he_run π l _ 0 p).trans hp
theorem he_year1 (b : Nat) (σ : Sg) : gHe (oYear1 b σ) = gHe σ := by
  unfold oYear1
  cases gLy σ b with
  | nil => rfl
  | cons w r => rfl
theorem he_year (π : Pg) (σ : Sg) : gHe (oYear π σ) = gHe σ := by
  show gHe (itN oYear1 (gB π) 0 σ) = gHe σ
  exact itN_inv (step := oYear1) (P := fun _ p => gHe p = gHe σ) (B := gB π) (fun b p _ hp => (he_year1 b p).trans hp) (gB π) 0 σ (by omega) rfl
section WS
variable {π : Pg} {σ : Sg} {c : List Tk} {s_year s_wet s_lost s_eaten s_tied s_ripeMany : Int32} {s_gone s_place s_heard s_many s_lying s_ripe : Nat → Int32}
variable {p_beds p_letters p_readers : Int32} {p_far p_drain p_length p_words p_home l_code l_values l_stack : Nat → Int32} {l_length : Int32}
variable {m_s m_bed m_letter m_reader m_code m_ofCode m_stack m_facts : Nat → Int32} {m_beds m_letters m_readers m_codes : Int32}
theorem okT_do (ok : OkP π) {t : St} (ht : OkSt π t) (hr : OkS π (oPour π c t.2.1 σ)) (os : OkT π σ) : OkT π (doSt π c t σ).2 := by
  obtain ⟨h1, h2, h3, h4, h5, h6⟩ := ht
  obtain ⟨o1, o2, o3⟩ := os
  unfold doSt
  by_cases e0 : t.1 = 0
  · rw [if_pos e0]
    exact ⟨okS_blow o1, okH_blow ok o2, by rw [yr_blow]; exact o3⟩
  rw [if_neg e0]
  by_cases e1 : t.1 = 1
  · rw [if_pos e1]
    exact ⟨hr, okH_he o2 (fun r => by show gHe (oPour π c t.2.1 σ) r = _; rw [he_pour]), by show gYr (oPour π c t.2.1 σ) ≤ 400; rw [yr_pour]; exact o3⟩
  rw [if_neg e1]
  by_cases e2 : t.1 = 2
  · rw [if_pos e2]
    exact ⟨okS_tie o1, okH_he o2 (fun r => rfl), o3⟩
  rw [if_neg e2]
  by_cases e3 : t.1 = 3
  · rw [if_pos e3]
    by_cases e : gPl σ t.2.1 = t.2.2
    · rw [if_pos e]; exact ⟨o1, o2, o3⟩
    · rw [if_neg e]; exact ⟨okS_go o1 (h5 e3).2, okH_go o1 o2, o3⟩
  rw [if_neg e3]
  by_cases e4 : t.1 = 4
  · rw [if_pos e4]
    by_cases e : gLy σ t.2.1 = []
    · rw [if_pos e]; exact ⟨o1, o2, o3⟩
    · rw [if_neg e]; exact ⟨okS_eat o1, okH_he o2 (fun r => rfl), o3⟩
  rw [if_neg e4]
  by_cases e5 : 400 ≤ gYr σ
  · rw [if_pos e5]; exact ⟨o1, o2, o3⟩
  · rw [if_neg e5]; exact ⟨okS_year o1 (by omega), okH_he o2 (fun r => by show gHe (oYear π σ) r = _; rw [he_year]), by show gYr σ + 1 ≤ 400; omega⟩
theorem zok_b (b : Bool) : zok (if b then 1 else 0) = true := by cases b <;> rfl
theorem zok_p (p : Prop) [Decidable p] : zok (if p then 0 else 1) = true := by
  by_cases h : p
  · rw [if_pos h]; rfl
  · rw [if_neg h]; rfl
theorem c_isDone (hS : RS π σ (s_year, s_wet, s_lost, s_eaten, s_tied, s_ripeMany, s_gone, s_place, s_heard, s_many, s_lying, s_ripe)) (hP : RPc π (p_beds, p_letters, p_readers, p_far, p_drain, p_length, p_words, p_home)) (ok : OkP π) (os : OkT π σ) (hR : RLc c l_code l_length) (okl : OkL c) {t : St} (ht : OkSt π t) {kind first second : Nat → Int32} {i : Nat} (hi : i < 150) (hk : kind i = nI t.1) (hf : first i = nI t.2.1) (hs : second i = nI t.2.2) : ∃ y w lo ea ti rm go pl he ma ly ri va st, f_X8_isDone kind first second s_year s_wet s_lost s_eaten s_tied s_ripeMany s_gone s_place s_heard s_many s_lying s_ripe p_beds p_letters p_readers p_far p_drain p_length p_words l_code l_values l_stack l_length (nI i) = some (if (doSt π c t σ).1 then 1 else 0, y, w, lo, ea, ti, rm, go, pl, he, ma, ly, ri, va, st) ∧ RS π (doSt π c t σ).2 (y, w, lo, ea, ti, rm, go, pl, he, ma, ly, ri) := by
  obtain ⟨h1, h2, h3, h4, h5, h6⟩ := ht
  have os' := os
  obtain ⟨o1, o2, o3⟩ := os
  have hB := ok.1
  unfold f_X8_isDone
  rw [ixb_nI hi (by omega), if_pos rfl, nI_cl (by omega), hk, hf, hs, if_pos rfl, if_pos rfl, if_pos rfl, if_pos rfl, if_pos rfl, if_pos rfl, ite_eq0 (by omega), show (1 : Int32) = nI 1 from rfl, show (2 : Int32) = nI 2 from rfl, show (3 : Int32) = nI 3 from rfl, show (4 : Int32) = nI 4 from rfl, ite_eq (by omega) (by omega), ite_eq (by omega) (by omega), ite_eq (by omega) (by omega), ite_eq (by omega) (by omega)]
  unfold doSt
  by_cases e0 : t.1 = 0
  · obtain ⟨he, e, q⟩ := c_blow hS hP ok o1 (N := t.2.1) (by omega)
    rw [if_pos e0, if_pos e0, e, b2_s, zok_b, if_pos rfl]
    exact ⟨_, _, _, _, _, _, _, _, _, _, _, _, l_values, l_stack, rfl, q⟩
  rw [if_neg e0, if_neg e0]
  by_cases e1 : t.1 = 1
  · obtain ⟨w, lo, go, ma, ly, va, st, e, q, -⟩ := c_pour (l_values := l_values) (l_stack := l_stack) hS hP ok o1 hR okl (N := t.2.1) (by omega)
    rw [if_pos e1, if_pos e1, e, b7_s]
    exact ⟨_, _, _, _, _, _, _, _, _, _, _, _, va, st, rfl, q⟩
  rw [if_neg e1, if_neg e1]
  by_cases e2 : t.1 = 2
  · rw [if_pos e2, if_pos e2]
    exact ⟨_, _, _, _, _, _, _, _, _, _, _, _, l_values, l_stack, rfl, c_tie hS ok (h4 e2)⟩
  rw [if_neg e2, if_neg e2]
  by_cases e3 : t.1 = 3
  · obtain ⟨pl, he, e, q⟩ := c_go hS ok o1 (h5 e3).1 (show t.2.2 < 6 by have := (h5 e3).2; omega)
    rw [if_pos e3, if_pos e3, e, b3_s, zok_p, if_pos rfl]
    by_cases e9 : gPl σ t.2.1 = t.2.2
    · rw [if_pos e9] at q
      rw [if_pos e9, if_pos e9]
      exact ⟨_, _, _, _, _, _, _, _, _, _, _, _, l_values, l_stack, rfl, q⟩
    · rw [if_neg e9] at q
      rw [if_neg e9, if_neg e9]
      exact ⟨_, _, _, _, _, _, _, _, _, _, _, _, l_values, l_stack, rfl, q⟩
  rw [if_neg e3, if_neg e3]
  by_cases e4 : t.1 = 4
  · obtain ⟨ea, ma, e, q⟩ := c_clearBed hS o1 (b := t.2.1) (by have := h6 e4; omega)
    rw [if_pos e4, if_pos e4, e, b3_s, zok_p, if_pos rfl]
    by_cases e9 : gLy σ t.2.1 = []
    · rw [if_pos e9] at q
      rw [if_pos e9, if_pos e9]
      exact ⟨_, _, _, _, _, _, _, _, _, _, _, _, l_values, l_stack, rfl, q⟩
    · rw [if_neg e9] at q
      rw [if_neg e9, if_neg e9]
      exact ⟨_, _, _, _, _, _, _, _, _, _, _, _, l_values, l_stack, rfl, q⟩
  rw [if_neg e4, if_neg e4, hS.1, show (400 : Int32) = nI 400 from rfl, ite_lt (by omega) (by omega)]
  have hS0 := hS
  obtain ⟨rfl, -⟩ := hS0
  by_cases e5 : gYr σ < 400
  · obtain ⟨y, w, rm, ma, ly, ri, e, q⟩ := c_passYear hS hP ok o1
    rw [if_pos e5, if_neg (show ¬ 400 ≤ gYr σ by omega), e, b6_s]
    exact ⟨_, _, _, _, _, _, _, _, _, _, _, _, l_values, l_stack, rfl, q⟩
  · rw [if_neg e5, if_pos (show 400 ≤ gYr σ by omega)]
    exact ⟨_, _, _, _, _, _, _, _, _, _, _, _, l_values, l_stack, rfl, hS⟩
theorem m_tie (hM : RM π σ m_s) (ok : OkP π) {l : Nat} (hl : l < gL π) : RM π (oTie l σ) (upd m_s (6 + l) (1 - m_s (6 + l))) := by
  have hL := ok.2.1
  have hR := ok.2.2.1
  obtain ⟨h1, h2, h3, h4, h5, h6, h7, h8, h9, h10, h11, h12⟩ := hM
  have hu : ∀ i, i < 6 ∨ 12 ≤ i → upd m_s (6 + l) (1 - m_s (6 + l)) i = m_s i := fun i hi => upd_n (by omega)
  refine ⟨by rw [hu _ (by omega)]; exact h1, by rw [hu _ (by omega)]; exact h2, by rw [hu _ (by omega)]; exact h3, by rw [hu _ (by omega)]; exact h4, fun k hk => ?_, by rw [hu _ (by omega)]; exact h6, fun k hk => by rw [hu _ (by omega)]; exact h7 k hk, fun r hr => by rw [hu _ (by omega)]; exact h8 r hr, fun r hr => by rw [hu _ (by omega)]; exact h9 r hr, fun b hb => by rw [hu _ (by omega)]; exact h10 b hb, fun b k hb hk => by rw [hu _ (by omega)]; exact h11 b k hb hk, fun k hk => by rw [hu _ (by omega)]; exact h12 k hk⟩
  by_cases e : k = l
  · subst e
    rw [upd_s, h5 k hk]
    show (1 : Int32) - tdB (gTi σ) k = tdB (fup (gTi σ) k (!gTi σ k)) k
    unfold tdB
    rw [fup_s]
    cases gTi σ k <;> rfl
  · rw [upd_n (by omega), h5 k hk]
    show tdB (gTi σ) k = tdB (fup (gTi σ) l (!gTi σ l)) k
    unfold tdB
    rw [fup_n e]
theorem m_isDone (hM : RM π σ m_s) (hQ : RPm π m_beds m_letters m_readers m_bed m_letter m_reader) (ok : OkP π) (os : OkT π σ) (hR : RLm c m_code m_ofCode m_codes) (okl : OkL c) {t : St} (ht : OkSt π t) : ∃ st fa m1, f_X10_isDone m_bed m_letter m_beds m_letters m_readers m_code m_ofCode m_stack m_codes m_facts m_s (nI t.1) (nI t.2.1) (nI t.2.2) = some (if (doSt π c t σ).1 then 1 else 0, st, fa, m1) ∧ RM π (doSt π c t σ).2 m1 ∧ OkT π (doSt π c t σ).2 := by
  have ht' := ht
  obtain ⟨h1, h2, h3, h4, h5, h6⟩ := ht
  have os' := os
  obtain ⟨o1, o2, o3⟩ := os
  have hB := ok.1
  have hL := ok.2.1
  have hpour := m_pours (m_stack := m_stack) (m_facts := m_facts) hM hQ ok o1 hR okl (N := t.2.1) (by omega)
  have hok : OkT π (doSt π c t σ).2 := okT_do ok ht' (by obtain ⟨a, b, m1, -, d, e⟩ := hpour; exact e) os'
  have hi : ∀ x : Nat, x ≤ 5 → (x = 0 → False) → ¬ nI x = 0 := fun x hx h0 h9 => h0 (by have h9 : nI x = nI 0 := h9; rw [nI_eq (by omega) (by omega)] at h9; exact h9)
  suffices h : ∃ st fa m1, f_X10_isDone m_bed m_letter m_beds m_letters m_readers m_code m_ofCode m_stack m_codes m_facts m_s (nI t.1) (nI t.2.1) (nI t.2.2) = some (if (doSt π c t σ).1 then 1 else 0, st, fa, m1) ∧ RM π (doSt π c t σ).2 m1 by
    obtain ⟨st, fa, m1, a, b⟩ := h
    exact ⟨st, fa, m1, a, b, hok⟩
  unfold f_X10_isDone f_X10_isDone_54
  rw [ite_eq0 (by omega), show (1 : Int32) = nI 1 from rfl, show (2 : Int32) = nI 2 from rfl, show (3 : Int32) = nI 3 from rfl, show (4 : Int32) = nI 4 from rfl, show (5 : Int32) = nI 5 from rfl]
  rw [ite_eq (a := t.1) (b := 3) (by omega) (by omega), ite_eq (a := t.1) (b := 4) (by omega) (by omega), ite_eq (a := t.1) (b := 5) (by omega) (by omega), ite_eq (a := t.1) (b := 1) (by omega) (by omega), ite_eq (a := t.1) (b := 2) (by omega) (by omega)]
  unfold doSt
  by_cases e0 : t.1 = 0
  · obtain ⟨m1, e, q⟩ := m_isBlown hM hQ ok o1 (N := t.2.1) (by omega)
    rw [if_pos e0, if_pos e0, e, b2_s]
    have hz : zok (if (oBlow π t.2.1 σ).1 = true then (1 : Int32) else 0) = true := zok_b _
    rw [if_pos hz]
    exact ⟨_, _, m1, rfl, q⟩
  rw [if_neg e0, if_neg e0]
  by_cases e3 : t.1 = 3
  · obtain ⟨m1, e, q⟩ := m_isWalked hM ok o1 (h5 e3).1 (show t.2.2 < 6 by have := (h5 e3).2; omega)
    rw [if_pos e3, e, b2_s, zok_p, if_pos rfl, if_neg (show ¬ t.1 = 1 by omega), if_neg (show ¬ t.1 = 2 by omega), if_pos e3]
    by_cases e9 : gPl σ t.2.1 = t.2.2
    · rw [if_pos e9] at q
      rw [if_pos e9, if_pos e9]
      exact ⟨_, _, m1, rfl, q⟩
    · rw [if_neg e9] at q
      rw [if_neg e9, if_neg e9]
      exact ⟨_, _, m1, rfl, q⟩
  rw [if_neg e3]
  by_cases e4 : t.1 = 4
  · obtain ⟨m1, e, q⟩ := m_isEaten hM ok o1 (b := t.2.1) (by have := h6 e4; omega)
    rw [if_pos e4, e, b2_s, zok_p, if_pos rfl, if_neg (show ¬ t.1 = 1 by omega), if_neg (show ¬ t.1 = 2 by omega), if_neg e3, if_pos e4]
    by_cases e9 : gLy σ t.2.1 = []
    · rw [if_pos e9] at q
      rw [if_pos e9, if_pos e9]
      exact ⟨_, _, m1, rfl, q⟩
    · rw [if_neg e9] at q
      rw [if_neg e9, if_neg e9]
      exact ⟨_, _, m1, rfl, q⟩
  rw [if_neg e4]
  by_cases e1 : t.1 = 1
  · obtain ⟨st, fa, m1, e, q, -⟩ := hpour
    rw [if_neg (show ¬ t.1 = 5 by omega), if_pos e1, if_pos e1, e, b3_s]
    exact ⟨st, fa, m1, rfl, q⟩
  by_cases e2 : t.1 = 2
  · have hl := h4 e2
    rw [if_neg (show ¬ t.1 = 5 by omega), if_neg e1, if_neg e1, if_pos e2, if_pos e2, show (6 : Int32) + nI t.2.1 = nI (6 + t.2.1) from nI_add 6 _, ixb_nI (by omega) (by omega), if_pos rfl, if_pos rfl, nI_cl (by omega)]
    exact ⟨_, _, _, rfl, m_tie hM ok hl⟩
  have e5 : t.1 = 5 := by omega
  rw [if_pos e5, show ixb 164 165 = true from rfl, if_pos rfl, show (164 : Int32).toNatClampNeg = 164 from rfl, hM.1, show (400 : Int32) = nI 400 from rfl, ite_lt (by omega) (by omega), if_neg e1, if_neg e1, if_neg e2, if_neg e2, if_neg e3, if_neg e4]
  by_cases e6 : gYr σ < 400
  · obtain ⟨m1, e, q⟩ := m_passes hM hQ ok o1
    rw [if_pos e6, if_neg (show ¬ 400 ≤ gYr σ by omega), e, b1_s]
    exact ⟨_, _, m1, rfl, q⟩
  · rw [if_neg e6, if_pos (show 400 ≤ gYr σ by omega)]
    exact ⟨_, _, _, rfl, hM⟩
end WS
