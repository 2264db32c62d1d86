/-! ===== the model's row: words run out, rain ===== -/
section MR
variable {π : Pg} {σ : Sg} {c : List Tk} {m_s m_bed m_letter m_reader m_code m_ofCode m_stack m_facts : Nat → Int32} {m_beds m_letters m_readers m_codes : Int32}
theorem m_runsOut (hS : RM π σ m_s) (hP : RPm π m_beds m_letters m_readers m_bed m_letter m_reader) (ok : OkP π) (os : OkS π σ) {l N : Nat} (hl : l < gL π) (hN : N ≤ gLeft π σ l) : ∃ m1, f_X10_runsOut m_letter m_s (nI l) (nI N) = some m1 ∧ RM π (oRun π l N σ) m1 ∧ OkS π (oRun π l N σ) := by
  have h0 := ok.1
  have hL6 := ok.2.1
  have hR5 := ok.2.2.1
  have hle := hP.2.2.2.2.1
  have hd := (ok.2.2.2.2.1 l hl).1
  have h8 := (ok.2.2.2.2.1 l hl).2.2.1
  have hg := os.2.2.1 l hl
  have hN' : N + gGo σ l ≤ gLe π l := by unfold gLeft at hN; omega
  unfold f_X10_runsOut
  simp (disch := omega) only [lit, nI_mul, ixb_nI, nI_cl, if_true, (hle l hl).1]
  obtain ⟨m1, e, ⟨q1, q2, q3⟩⟩ := loopR (A := Sg) (C := Nat → Int32) (F := fun n c x => f_X10_runsOut_13 m_letter (nI l) (nI N) n (nI (gDr π l)) x c) (B := N) (step := fun _ τ => oDrop π l τ) (fin := some) (Q := fun k τ c => OkS π τ ∧ gGo τ l = gGo σ l + k ∧ RM π τ c) (fun n c => by
      show f_X10_runsOut_13 m_letter (nI l) (nI N) (n + 1) (nI (gDr π l)) (nI N) c = _
      rw [f_X10_runsOut_13, if_pos (Int32.le_refl _)]) (fun n τ m k hk hq => by
      obtain ⟨ot, hg2, hT⟩ := hq
      obtain ⟨r1, r2, r3, r4, r5, r6, r7, r8, r9, r10, r11, r12⟩ := id hT
      have h12 := (ot.2.2.2.2.1 (gDr π l)).1
      have hlt : gGo τ l < gLe π l := by omega
      have okN := okS_drop ok ot hl hlt
      have hwd := m_wordOf hT hP ok ot hl (k := 0) (by omega)
      have hgn : gGo (oDrop π l τ) l = gGo σ l + (k + 1) := by rw [drop_go, if_pos rfl, hg2]; omega
      have hd6 : gDr π l < 6 := by omega
      show ∃ c', f_X10_runsOut_13 m_letter (nI l) (nI N) (n + 1) (nI (gDr π l)) (nI k) m = f_X10_runsOut_13 m_letter (nI l) (nI N) n (nI (gDr π l)) (nI (k + 1)) c' ∧ OkS π (oDrop π l τ) ∧ gGo (oDrop π l τ) l = gGo σ l + (k + 1) ∧ RM π (oDrop π l τ) c'
      rw [f_X10_runsOut_13]
      simp (disch := omega) only [nI_leJ, lit, nI_add, nI_mul, ixb_nI, nI_cl, if_true, r10 _ hd6, nI_eqI, hwd, b1_s]
      rw [if_neg (by omega)]
      have goS : ∀ l', l' < gL π → (if l' = l then nI (gGo τ l + 1) else m l') = nI (gGo (oDrop π l τ) l') := fun l' hl' => by
        rw [drop_go]
        by_cases e : l' = l
        · rw [if_pos e, if_pos e]
        · rw [if_neg e, if_neg e]; exact r7 l' hl'
      by_cases h : (gLy τ (gDr π l)).length < 12
      · rw [if_neg (by omega)]
        unfold f_X10_runsOut_89
        simp (disch := omega) only [lit, nI_add, Nat.zero_add, ixb_nI, nI_cl, if_true, upd_n, r10 _ hd6, r7 l hl, Nat.add_zero]
        refine ⟨_, rfl, okN, hgn, ?_⟩
        have e9 : oDrop π l τ = (τ.1, gTi τ, fup (gGo τ) l (gGo τ l + 1), gPl τ, gHe τ, fup (gLy τ) (gDr π l) (gLy τ (gDr π l) ++ [gWd π l (gGo τ l)]), gRp τ) := by unfold oDrop; rw [if_pos h]
        rw [e9] at goS ⊢
        refine ⟨?_, ?_, ?_, ?_, fun l' hl' => ?_, ?_, fun l' hl' => ?_, fun s hs => ?_, fun s hs => ?_, fun b' hb' => ?_, fun b' j hb' hj => ?_, fun j hj => ?_⟩
        · rw [upd_n (by omega), upd_n (by omega), upd_n (by omega)]; exact r1
        · rw [upd_n (by omega), upd_n (by omega), upd_n (by omega)]; exact r2
        · rw [upd_n (by omega), upd_n (by omega), upd_n (by omega)]; exact r3
        · rw [upd_n (by omega), upd_n (by omega), upd_n (by omega)]; exact r4
        · rw [upd_n (by omega), upd_n (by omega), upd_n (by omega)]; exact r5 l' hl'
        · rw [upd_n (by omega), upd_n (by omega), upd_n (by omega)]; exact r6
        · rw [← goS l' hl', upd_at]
          by_cases e : l' = l
          · rw [if_pos e, if_pos e]
          · rw [if_neg e, if_neg e, upd_n (by omega), upd_n (by omega)]
        · rw [upd_n (by omega), upd_n (by omega), upd_n (by omega)]; exact r8 s hs
        · rw [upd_n (by omega), upd_n (by omega), upd_n (by omega)]; exact r9 s hs
        · show _ = nI (fup (gLy τ) (gDr π l) (gLy τ (gDr π l) ++ [gWd π l (gGo τ l)]) b').length
          rw [upd_n (by omega)]
          by_cases e : b' = gDr π l
          · subst e; rw [upd_s, fup_s, List.length_append]; rfl
          · rw [upd_n (by omega), upd_n (by omega), fup_n e]; exact r10 b' hb'
        · have hj : j < (fup (gLy τ) (gDr π l) (gLy τ (gDr π l) ++ [gWd π l (gGo τ l)]) b').length := hj
          show _ = nI ((fup (gLy τ) (gDr π l) (gLy τ (gDr π l) ++ [gWd π l (gGo τ l)]) b').getD j 0)
          rw [upd_n (by omega)]
          by_cases e : b' = gDr π l
          · subst e
            rw [fup_s] at hj ⊢
            rw [List.length_append] at hj
            have hj' : j < (gLy τ (gDr π l)).length + 1 := hj
            rw [upd_n (by omega)]
            by_cases e2 : j = (gLy τ (gDr π l)).length
            · rw [e2, upd_s, getD_la]
            · rw [upd_n (by omega), getD_sn (by omega)]; exact r11 _ j hb' (by omega)
          · rw [fup_n e] at hj ⊢
            have h13 := (ot.2.2.2.2.1 b').1
            rw [upd_n (by omega), upd_n (by omega)]; exact r11 b' j hb' hj
        · have h13 := ot.2.2.2.2.2.1
          have hj : j < (gRp τ).length := hj
          rw [upd_n (by omega), upd_n (by omega), upd_n (by omega)]; exact r12 j hj
      · rw [if_pos (by omega)]
        unfold f_X10_runsOut_89
        simp (disch := omega) only [lit, nI_add, Nat.zero_add, ixb_nI, nI_cl, if_true, upd_n, r3, r7 l hl]
        refine ⟨_, rfl, okN, hgn, ?_⟩
        have e9 : oDrop π l τ = ((gYr τ, gWt τ, gLo τ + 1, gEa τ), gTi τ, fup (gGo τ) l (gGo τ l + 1), gPl τ, gHe τ, gLy τ, gRp τ) := by unfold oDrop; rw [if_neg h]
        rw [e9] at goS ⊢
        refine ⟨?_, ?_, ?_, ?_, fun l' hl' => ?_, ?_, fun l' hl' => ?_, fun s hs => ?_, fun s hs => ?_, fun b' hb' => ?_, fun b' j hb' hj => ?_, fun j hj => ?_⟩
        · rw [upd_n (by omega), upd_n (by omega)]; exact r1
        · rw [upd_n (by omega), upd_n (by omega)]; exact r2
        · rw [upd_n (by omega), upd_s]; rfl
        · rw [upd_n (by omega), upd_n (by omega)]; exact r4
        · rw [upd_n (by omega), upd_n (by omega)]; exact r5 l' hl'
        · rw [upd_n (by omega), upd_n (by omega)]; exact r6
        · rw [← goS l' hl', upd_at]
          by_cases e : l' = l
          · rw [if_pos e, if_pos e]
          · rw [if_neg e, if_neg e, upd_n (by omega)]
        · rw [upd_n (by omega), upd_n (by omega)]; exact r8 s hs
        · rw [upd_n (by omega), upd_n (by omega)]; exact r9 s hs
        · rw [upd_n (by omega), upd_n (by omega)]; exact r10 b' hb'
        · have h13 := (ot.2.2.2.2.1 b').1
          have hj : j < (gLy τ b').length := hj
          rw [upd_n (by omega), upd_n (by omega)]; exact r11 b' j hb' hj
        · have h13 := ot.2.2.2.2.2.1
          have hj : j < (gRp τ).length := hj
          rw [upd_n (by omega), upd_n (by omega)]; exact r12 j hj)
      N 0 FU σ m_s (by omega) (FU_gt (by omega)) ⟨os, rfl, hS⟩
  exact ⟨m1, e, q3, q1⟩
theorem m_held {a b : Nat} (ha : a < 2147483648) (hb : b < 2147483648) : f_X10_held (nI a) (nI b) = some (nI (min b a)) := by
  unfold f_X10_held
  by_cases h : a ≤ b
  · rw [if_pos ((nI_leI ha hb).mpr h), Nat.min_eq_right h]
  · rw [if_neg (fun h9 => h ((nI_leI ha hb).mp h9)), Nat.min_eq_left (by omega)]
theorem m_runBy (hS : RM π σ m_s) (hP : RPm π m_beds m_letters m_readers m_bed m_letter m_reader) (ok : OkP π) (os : OkS π σ) (hR : RLm c m_code m_ofCode m_codes) (okl : OkL c) {l n w : Nat} (hl : l < gL π) : ∃ st fa, f_X10_runBy m_bed m_letter m_code m_ofCode m_stack m_codes m_facts m_s (nI l) (nI n) (nI w) = some (nI (rN π c n w σ l), st, fa) := by
  have h0 := ok.1
  have h1 := ok.2.1
  have hd := (ok.2.2.2.2.1 l hl).1
  have h8 := (ok.2.2.2.2.1 l hl).2.2.1
  have hle := hP.2.2.2.2.1
  have hfa := hP.2.2.2.1 _ hd
  have hma := hS.2.2.2.2.2.2.2.2.2.1 _ (Nat.lt_of_lt_of_le hd h0)
  unfold f_X10_runBy
  rw [m_leftOf hS hP ok os hl, b1_s]
  simp (disch := omega) only [lit, nI_mul, nI_add, ixb_nI, nI_cl, if_true, (hle l hl).1, hfa, hma, hS.1]
  obtain ⟨st, fa, e⟩ := m_runOf (m_stack := m_stack) (m_facts := m_facts) (n1 := nI n) (n2 := nI w) (n3 := nI (gLeft π σ l)) (n4 := nI (gFa π (gDr π l))) (n5 := nI (gLy σ (gDr π l)).length) (n6 := nI (gYr σ)) (n7 := nI l) hR okl
  rw [e, b3_s, b1_s]
  have hr := runN_le (envR π n w σ l) c
  have hlf : gLeft π σ l ≤ 8 := by unfold gLeft; omega
  rw [m_held (Nat.lt_of_le_of_lt (runN_le _ _) (by omega)) (by omega), b1_s]
  exact ⟨st, fa, rfl⟩
theorem m_pours (hS : RM π σ m_s) (hP : RPm π m_beds m_letters m_readers m_bed m_letter m_reader) (ok : OkP π) (os : OkS π σ) (hR : RLm c m_code m_ofCode m_codes) (okl : OkL c) {N : Nat} (hN : N < 1000) : ∃ st fa m1, f_X10_pours m_bed m_letter m_letters m_code m_ofCode m_stack m_codes m_facts m_s (nI N) = some (st, fa, m1) ∧ RM π (oPour π c N σ) m1 ∧ OkS π (oPour π c N σ) := by
  have h0 := ok.1
  have hL6 := ok.2.1
  have hR5 := ok.2.2.1
  have hw99 := os.2.1
  have hl : m_letters = nI (gL π) := hP.2.1
  unfold f_X10_pours
  simp (disch := omega) only [lit, nI_add, ixb_nI, nI_cl, if_true, hS.2.1]
  rw [m_held (by omega) (by omega), b1_s]
  have hS0 : RM π (oWet N σ) (upd m_s 161 (nI (min 99 (gWt σ + N)))) := by
    obtain ⟨r1, r2, r3, r4, r5, r6, r7, r8, r9, r10, r11, r12⟩ := hS
    refine ⟨?_, ?_, ?_, ?_, fun l hl => ?_, ?_, fun l hl => ?_, fun s hs => ?_, fun s hs => ?_, fun b' hb' => ?_, fun b' j hb' hj => ?_, fun j hj => ?_⟩
    · rw [upd_n (by omega)]; exact r1
    · rw [upd_s]; rfl
    · rw [upd_n (by omega)]; exact r3
    · rw [upd_n (by omega)]; exact r4
    · rw [upd_n (by omega)]; exact r5 l hl
    · rw [upd_n (by omega)]; exact r6
    · rw [upd_n (by omega)]; exact r7 l hl
    · rw [upd_n (by omega)]; exact r8 s hs
    · rw [upd_n (by omega)]; exact r9 s hs
    · rw [upd_n (by omega)]; exact r10 b' hb'
    · have h13 := (os.2.2.2.2.1 b').1
      have hj : j < (gLy σ b').length := hj
      rw [upd_n (by omega)]; exact r11 b' j hb' hj
    · have h13 := os.2.2.2.2.2.1
      have hj : j < (gRp σ).length := hj
      rw [upd_n (by omega)]; exact r12 j hj
  obtain ⟨⟨st, fa, m1⟩, e, ⟨q1, q3⟩⟩ := loopR (A := Sg) (C := (Nat → Int32) × (Nat → Int32) × (Nat → Int32)) (F := fun n q x => f_X10_pours_25 m_bed m_letter m_letters m_code m_ofCode m_codes (nI N) n x q.1 q.2.1 q.2.2) (B := gL π) (step := oPour1 π c N) (fin := fun q => some (q.1, q.2.1, q.2.2)) (Q := fun k τ q => OkS π τ ∧ RM π τ q.2.2) (fun n q => by
      show f_X10_pours_25 m_bed m_letter m_letters m_code m_ofCode m_codes (nI N) (n + 1) (nI (gL π)) q.1 q.2.1 q.2.2 = _
      rw [f_X10_pours_25, hl, if_pos (Int32.le_refl _)]) (fun n τ q k hk hq => by
      obtain ⟨st, fa, m⟩ := q
      obtain ⟨ot, hT⟩ := hq
      have hT : RM π τ m := hT
      have h8 := (ok.2.2.2.2.1 k hk).2.2.1
      have hti := hT.2.2.2.2.1 k hk
      show ∃ c' : (Nat → Int32) × (Nat → Int32) × (Nat → Int32), f_X10_pours_25 m_bed m_letter m_letters m_code m_ofCode m_codes (nI N) (n + 1) (nI k) st fa m = f_X10_pours_25 m_bed m_letter m_letters m_code m_ofCode m_codes (nI N) n (nI (k + 1)) c'.1 c'.2.1 c'.2.2 ∧ OkS π (oPour1 π c N k τ) ∧ RM π (oPour1 π c N k τ) c'.2.2
      rw [f_X10_pours_25, hl]
      simp (disch := omega) only [nI_leJ, lit, nI_add, ixb_nI, nI_cl, if_true, hti, hT.2.1]
      rw [if_neg (by omega)]
      unfold oPour1 tdB
      cases hg : gTi τ k with
      | true =>
        refine ⟨(st, fa, m), ?_, ot, hT⟩
        simp only [if_true]
        rw [if_neg (by decide)]
      | false =>
        simp only [Bool.false_eq_true, if_false]
        rw [if_pos (by rfl)]
        obtain ⟨st2, fa2, e2⟩ := m_runBy (m_stack := st) (m_facts := fa) (n := N) (w := gWt τ) hT hP ok ot hR okl hk
        rw [e2, b3_s]
        obtain ⟨m3, e3, q3, o3⟩ := m_runsOut (N := rN π c N (gWt τ) τ k) hT hP ok ot hk (Nat.min_le_left _ _)
        rw [e3, b1_s]
        exact ⟨(st2, fa2, m3), rfl, o3, q3⟩)
      (gL π) 0 FU (oWet N σ) (m_stack, m_facts, upd m_s 161 (nI (min 99 (gWt σ + N)))) (by omega) (FU_gt (by omega)) ⟨okS_wet os, hS0⟩
  exact ⟨st, fa, m1, e, q3, q1⟩
end MR
