/-! ===== the class's State: words run out, winds, the beginning, copies ===== -/
def oBegin (π : Pg) : Sg := ((0, 0, 0, 0), fun _ => false, fun _ => 0, gHo π, fun _ => 0, fun _ => [], [])
theorem okS_begin {π : Pg} (ok : OkP π) : OkS π (oBegin π) := ⟨Nat.zero_le _, Nat.zero_le _, fun _ _ => Nat.zero_le _, fun r hr => ok.2.2.2.2.2 r hr, fun _ => ⟨Nat.zero_le _, fun _ => rfl, fun x hx => by cases hx⟩, Nat.zero_le _, fun x hx => by cases hx⟩
theorem okS_drop {π : Pg} {σ : Sg} (ok : OkP π) (os : OkS π σ) {l : Nat} (hl : l < gL π) (hlt : gGo σ l < gLe π l) : OkS π (oDrop π l σ) := by
  obtain ⟨h1, h2, h3, h4, h5, h6, h7⟩ := os
  have hgo : ∀ l', l' < gL π → fup (gGo σ) l (gGo σ l + 1) l' ≤ gLe π l' := fun l' hl' => by
    by_cases e : l' = l
    · subst e; rw [fup_s]; omega
    · rw [fup_n e]; exact h3 l' hl'
  have hd := (ok.2.2.2.2.1 l hl).1
  have hw := (ok.2.2.2.2.1 l hl).2.2.2 _ hlt
  unfold oDrop
  by_cases h : (gLy σ (gDr π l)).length < 12
  · rw [if_pos h]
    refine ⟨h1, h2, hgo, h4, fun b' => ?_, h6, h7⟩
    show (fup (gLy σ) (gDr π l) (gLy σ (gDr π l) ++ [gWd π l (gGo σ l)]) b').length ≤ 12 ∧ (gB π ≤ b' → fup (gLy σ) (gDr π l) (gLy σ (gDr π l) ++ [gWd π l (gGo σ l)]) b' = []) ∧ ∀ w ∈ fup (gLy σ) (gDr π l) (gLy σ (gDr π l) ++ [gWd π l (gGo σ l)]) b', w < 16
    by_cases e : b' = gDr π l
    · subst e
      rw [fup_s, List.length_append]
      refine ⟨?_, fun h9 => absurd h9 (by omega), fun x hx => ?_⟩
      · show (gLy σ (gDr π l)).length + 1 ≤ 12; omega
      · rcases List.mem_append.mp hx with hx | hx
        · exact (h5 _).2.2 x hx
        · rw [List.mem_singleton.mp hx]; exact hw
    · rw [fup_n e]; exact h5 b'
  · rw [if_neg h]
    exact ⟨h1, h2, hgo, h4, h5, h6, h7⟩
theorem drop_go (π : Pg) (σ : Sg) (l l' : Nat) : gGo (oDrop π l σ) l' = if l' = l then gGo σ l + 1 else gGo σ l' := by
  unfold oDrop
  by_cases h : (gLy σ (gDr π l)).length < 12
  · rw [if_pos h]; rfl
  · rw [if_neg h]; rfl
theorem drop_keep (π : Pg) (σ : Sg) (l : Nat) : gTi (oDrop π l σ) = gTi σ ∧ gWt (oDrop π l σ) = gWt σ ∧ gYr (oDrop π l σ) = gYr σ ∧ gPl (oDrop π l σ) = gPl σ ∧ gHe (oDrop π l σ) = gHe σ ∧ gRp (oDrop π l σ) = gRp σ := by
  unfold oDrop
  by_cases h : (gLy σ (gDr π l)).length < 12
  · rw [if_pos h]; exact ⟨rfl, rfl, rfl, rfl, rfl, rfl⟩
  · rw [if_neg h]; exact ⟨rfl, rfl, rfl, rfl, rfl, rfl⟩
section OF
variable {π : Pg} {σ : Sg} {s_year s_wet s_lost s_eaten s_tied s_ripeMany : Int32} {s_gone s_place s_heard s_many s_lying s_ripe : Nat → Int32}
variable {p_beds p_letters p_readers : Int32} {p_far p_drain p_length p_words p_home : Nat → Int32}
theorem c_runOut (hS : RS π σ (s_year, s_wet, s_lost, s_eaten, s_tied, s_ripeMany, s_gone, s_place, s_heard, s_many, s_lying, s_ripe)) (hP : RPc π (p_beds, p_letters, p_readers, p_far, p_drain, p_length, p_words, p_home)) (ok : OkP π) (os : OkS π σ) {l N : Nat} (hl : l < gL π) (hN : N ≤ gLeft π σ l) : ∃ lo go ma ly, f_X4_runOut s_lost s_gone s_many s_lying p_drain p_length p_words (nI l) (nI N) = some (lo, go, ma, ly) ∧ RS π (oRun π l N σ) (s_year, s_wet, lo, s_eaten, s_tied, s_ripeMany, go, s_place, s_heard, ma, ly, s_ripe) ∧ OkS π (oRun π l N σ) := by
  have h0 := ok.1
  have h1 := ok.2.1
  have hle := hP.2.2.2.2.1
  have hd := (ok.2.2.2.2.1 l hl).1
  have h8 := (ok.2.2.2.2.1 l hl).2.2.1
  have hg := os.2.2.1 l hl
  have hN' : N + gGo σ l ≤ gLe π l := by unfold gLeft at hN; omega
  unfold f_X4_runOut
  simp (disch := omega) only [ixb_nI, nI_cl, if_true, (hle l hl).1]
  obtain ⟨⟨lo, go, ma, ly⟩, e, ⟨q1, q2, q3⟩⟩ := loopR (A := Sg) (C := Int32 × (Nat → Int32) × (Nat → Int32) × (Nat → Int32)) (F := fun n c x => f_X4_runOut_11 p_drain p_length p_words (nI l) (nI N) n (nI (gDr π l)) x c.1 c.2.1 c.2.2.1 c.2.2.2) (B := N) (step := fun _ τ => oDrop π l τ) (fin := fun c => some (c.1, c.2.1, c.2.2.1, c.2.2.2)) (Q := fun k τ c => OkS π τ ∧ gGo τ l = gGo σ l + k ∧ RS π τ (s_year, s_wet, c.1, s_eaten, s_tied, s_ripeMany, c.2.1, s_place, s_heard, c.2.2.1, c.2.2.2, s_ripe)) (fun n c => by
      show f_X4_runOut_11 p_drain p_length p_words (nI l) (nI N) (n + 1) (nI (gDr π l)) (nI N) c.1 c.2.1 c.2.2.1 c.2.2.2 = _
      rw [f_X4_runOut_11, if_pos (Int32.le_refl _)]) (fun n τ c k hk hq => by
      obtain ⟨lo, go, ma, ly⟩ := c
      obtain ⟨ot, hg2, hT⟩ := hq
      have hT : RS π τ (s_year, s_wet, lo, s_eaten, s_tied, s_ripeMany, go, s_place, s_heard, ma, ly, s_ripe) := hT
      have hma := hT.2.2.2.2.2.2.2.2.2.1
      have hgo := hT.2.2.2.2.2.2.1
      have hlo := hT.2.2.1
      have h12 := (ot.2.2.2.2.1 (gDr π l)).1
      have hlt : gGo τ l < gLe π l := by omega
      have okN := okS_drop ok ot hl hlt
      have hnx := c_nextOf hT hP ok ot hl
      have hnn : gNext π τ l = nI (gWd π l (gGo τ l)) := by unfold gNext gLeft; rw [if_neg (by omega)]
      have hgn : gGo (oDrop π l τ) l = gGo σ l + (k + 1) := by rw [drop_go, if_pos rfl, hg2]; omega
      show ∃ c' : Int32 × (Nat → Int32) × (Nat → Int32) × (Nat → Int32), f_X4_runOut_11 p_drain p_length p_words (nI l) (nI N) (n + 1) (nI (gDr π l)) (nI k) lo go ma ly = f_X4_runOut_11 p_drain p_length p_words (nI l) (nI N) n (nI (gDr π l)) (nI (k + 1)) c'.1 c'.2.1 c'.2.2.1 c'.2.2.2 ∧ OkS π (oDrop π l τ) ∧ gGo (oDrop π l τ) l = gGo σ l + (k + 1) ∧ RS π (oDrop π l τ) (s_year, s_wet, c'.1, s_eaten, s_tied, s_ripeMany, c'.2.1, s_place, s_heard, c'.2.2.1, c'.2.2.2, s_ripe)
      rw [f_X4_runOut_11]
      simp (disch := omega) only [nI_leJ, ixb_nI, nI_cl, if_true, hma _ (Nat.lt_of_lt_of_le hd h0), lit]
      rw [if_neg (by omega)]
      obtain ⟨r1, r2, r3, r4, r5, r6, r7, r8, r9, r10, r11, r12⟩ := hT
      have goS : ∀ l', l' < gL π → upd go l (nI (gGo τ l + 1)) l' = nI (gGo (oDrop π l τ) l') := fun l' hl' => by
        rw [drop_go]
        by_cases e : l' = l
        · subst e; rw [upd_s, if_pos rfl]
        · rw [upd_n e, if_neg e]; exact r7 l' hl'
      by_cases h : (gLy τ (gDr π l)).length < 12
      · rw [if_neg (by omega), hnx, b1_s, hnn]
        simp (disch := omega) only [nI_mul, nI_add, ixb_nI, nI_cl, if_true]
        unfold f_X4_runOut_77
        simp (disch := omega) only [nI_mul, lit, nI_add, ixb_nI, nI_cl, if_true, hgo l hl]
        refine ⟨(lo, upd go l (nI (gGo τ l + 1)), upd ma (gDr π l) (nI ((gLy τ (gDr π l)).length + 1)), upd ly (gDr π l * 12 + (gLy τ (gDr π l)).length) (nI (gWd π l (gGo τ l)))), rfl, okN, hgn, ?_⟩
        have e9 : oDrop π l τ = (τ.1, gTi τ, fup (gGo τ) l (gGo τ l + 1), gPl τ, gHe τ, fup (gLy τ) (gDr π l) (gLy τ (gDr π l) ++ [gWd π l (gGo τ l)]), gRp τ) := by unfold oDrop; rw [if_pos h]
        rw [e9] at goS ⊢
        refine ⟨r1, r2, r3, r4, r5, r6, goS, r8, r9, fun b hb => ?_, fun b j hb hj => ?_, r12⟩
        · show upd ma (gDr π l) (nI ((gLy τ (gDr π l)).length + 1)) b = nI (fup (gLy τ) (gDr π l) (gLy τ (gDr π l) ++ [gWd π l (gGo τ l)]) b).length
          by_cases e : b = gDr π l
          · subst e; rw [upd_s, fup_s, List.length_append]; rfl
          · rw [upd_n e, fup_n e]; exact r10 b hb
        · have hj : j < (fup (gLy τ) (gDr π l) (gLy τ (gDr π l) ++ [gWd π l (gGo τ l)]) b).length := hj
          show upd ly (gDr π l * 12 + (gLy τ (gDr π l)).length) (nI (gWd π l (gGo τ l))) (b * 12 + j) = nI ((fup (gLy τ) (gDr π l) (gLy τ (gDr π l) ++ [gWd π l (gGo τ l)]) b).getD j 0)
          by_cases e : b = gDr π l
          · subst e
            rw [fup_s] at hj ⊢
            rw [List.length_append] at hj
            have hj' : j < (gLy τ (gDr π l)).length + 1 := hj
            by_cases e2 : j = (gLy τ (gDr π l)).length
            · rw [e2, upd_s, getD_la]
            · rw [upd_n (by omega), getD_sn (by omega)]; exact r11 _ j hb (by omega)
          · rw [fup_n e] at hj ⊢
            have h13 := (ot.2.2.2.2.1 b).1
            rw [upd_n (by omega)]
            exact r11 b j hb hj
      · rw [if_pos (by omega)]
        unfold f_X4_runOut_77
        simp (disch := omega) only [lit, nI_add, ixb_nI, nI_cl, if_true, hgo l hl]
        refine ⟨(lo + nI 1, upd go l (nI (gGo τ l + 1)), ma, ly), rfl, okN, hgn, ?_⟩
        have e9 : oDrop π l τ = ((gYr τ, gWt τ, gLo τ + 1, gEa τ), gTi τ, fup (gGo τ) l (gGo τ l + 1), gPl τ, gHe τ, gLy τ, gRp τ) := by unfold oDrop; rw [if_neg h]
        rw [e9] at goS ⊢
        exact ⟨r1, r2, by rw [hlo]; exact nI_add _ _, r4, r5, r6, goS, r8, r9, r10, r11, r12⟩)
      N 0 FU σ (s_lost, s_gone, s_many, s_lying) (by omega) (FU_gt (by omega)) ⟨os, rfl, hS⟩
  exact ⟨lo, go, ma, ly, e, q3, q1⟩
end OF
