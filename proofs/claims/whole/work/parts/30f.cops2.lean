/-! ===== the class's State: more that changes it ===== -/
theorem tbit (x : Int32) {j : Nat} (hj : j < 31) : (x >>> (nI j &&& 31)) &&& 1 = if bt x j then 1 else 0 := by
  refine b_ext fun i hi => ?_
  rw [b_and, b_sshr j (by omega) x hi]
  have h1 : bt 1 i = decide (i = 0) := by
    have : ∀ i, i < 32 → bt 1 i = decide (i = 0) := by decide +kernel
    exact this i hi
  rw [h1]
  by_cases e : i = 0
  · subst e
    rw [if_pos (by omega), Nat.add_zero]
    cases bt x j
    · decide
    · decide
  · rw [decide_eq_false e, Bool.and_false]
    cases bt x j
    · rw [if_neg (by simp)]; exact (b_0 i).symm
    · rw [if_pos rfl, h1, decide_eq_false e]
theorem b_one {l i : Nat} (hl : l < 32) (hi : i < 32) : bt ((1 : Int32) <<< (nI l &&& 31)) i = decide (i = l) := by
  rw [b_shl l hl 1 hi]
  have h1 : ∀ i, i < 32 → bt 1 i = decide (i = 0) := by decide +kernel
  by_cases e : i = l
  · subst e
    rw [Nat.sub_self, h1 0 (by decide)]
    simp
  · rw [decide_eq_false e]
    by_cases h : l ≤ i
    · rw [h1 (i - l) (by omega), decide_eq_false (show ¬ (i - l = 0) by omega), Bool.and_false]
    · rw [decide_eq_false h, Bool.false_and]
theorem or_new (a b : Int32) : a ||| (b &&& (a ^^^ -1)) = a ||| b := by
  refine b_ext fun i hi => ?_
  rw [b_or, b_and, b_xor, b_or, b_m1 i hi]
  cases bt a i <;> cases bt b i <;> rfl
theorem or_z (a : Int32) : a ||| 0 = a := by
  refine b_ext fun i hi => ?_
  rw [b_or, b_0, Bool.or_false]
theorem z_and (a : Int32) : 0 &&& a = 0 := by
  refine b_ext fun i hi => ?_
  rw [b_and, b_0, Bool.false_and]
section OE
variable {π : Pg} {σ : Sg} {s_year s_wet s_lost s_eaten s_tied s_ripeMany : Int32} {s_gone s_place s_heard s_many s_lying s_ripe : Nat → Int32}
variable {p_beds p_letters p_readers : Int32} {p_far p_drain p_length p_words p_home : Nat → Int32}
theorem okS_eat (os : OkS π σ) {b : Nat} : OkS π (oEat b σ) := by
  obtain ⟨h1, h2, h3, h4, h5, h6, h7⟩ := os
  refine ⟨h1, h2, h3, h4, fun b' => ?_, h6, h7⟩
  show (fup (gLy σ) b [] b').length ≤ 12 ∧ (gB π ≤ b' → fup (gLy σ) b [] b' = []) ∧ ∀ w ∈ fup (gLy σ) b [] b', w < 16
  by_cases e : b' = b
  · subst e; rw [fup_s]; exact ⟨Nat.zero_le _, fun _ => rfl, fun x hx => by cases hx⟩
  · rw [fup_n e]; exact h5 b'
theorem c_clearBed (hS : RS π σ (s_year, s_wet, s_lost, s_eaten, s_tied, s_ripeMany, s_gone, s_place, s_heard, s_many, s_lying, s_ripe)) (os : OkS π σ) {b : Nat} (hb : b < 6) : ∃ ea ma, f_X4_clearBed s_eaten s_many (nI b) = some (if gLy σ b = [] then 0 else 1, ea, ma) ∧ RS π (if gLy σ b = [] then σ else oEat b σ) (s_year, s_wet, s_lost, ea, s_tied, s_ripeMany, s_gone, s_place, s_heard, ma, s_lying, s_ripe) := by
  have hma := hS.2.2.2.2.2.2.2.2.2.1
  have h12 := (os.2.2.2.2.1 b).1
  unfold f_X4_clearBed
  simp (disch := omega) only [ixb_nI, nI_cl, if_true, hma b hb, lit, nI_eqI]
  by_cases h : gLy σ b = []
  · rw [if_pos h, if_pos h, h]
    exact ⟨s_eaten, s_many, rfl, hS⟩
  · rw [if_neg h, if_neg h, if_neg (fun e => h (List.length_eq_zero_iff.mp e))]
    refine ⟨_, _, rfl, ?_⟩
    obtain ⟨r1, r2, r3, r4, r5, r6, r7, r8, r9, r10, r11, r12⟩ := hS
    refine ⟨r1, r2, r3, ?_, r5, r6, r7, r8, r9, fun b' hb' => ?_, fun b' k hb' hk => ?_, r12⟩
    · rw [r4]; exact nI_add _ _
    · show upd s_many b (nI 0) b' = nI (fup (gLy σ) b [] b').length
      by_cases e : b' = b
      · subst e; rw [upd_s, fup_s]; rfl
      · rw [upd_n e, fup_n e]; exact r10 b' hb'
    · have hk : k < (fup (gLy σ) b [] b').length := hk
      show s_lying (b' * 12 + k) = nI ((fup (gLy σ) b [] b').getD k 0)
      by_cases e : b' = b
      · subst e; rw [fup_s] at hk; exact absurd hk (Nat.not_lt_zero _)
      · rw [fup_n e] at hk ⊢; exact r11 b' k hb' hk
theorem okS_go (os : OkS π σ) {r b : Nat} (hb : b < gB π) : OkS π (oGo r b σ) := by
  obtain ⟨h1, h2, h3, h4, h5, h6, h7⟩ := os
  refine ⟨h1, h2, h3, fun r' hr' => ?_, h5, h6, h7⟩
  show fup (gPl σ) r b r' < gB π
  by_cases e : r' = r
  · subst e; rw [fup_s]; exact hb
  · rw [fup_n e]; exact h4 r' hr'
theorem c_go (hS : RS π σ (s_year, s_wet, s_lost, s_eaten, s_tied, s_ripeMany, s_gone, s_place, s_heard, s_many, s_lying, s_ripe)) (ok : OkP π) (os : OkS π σ) {r b : Nat} (hr : r < gR π) (hb : b < 6) : ∃ pl he, f_X4_go s_place s_heard s_many s_lying (nI r) (nI b) = some (if gPl σ r = b then 0 else 1, pl, he) ∧ RS π (if gPl σ r = b then σ else oGo r b σ) (s_year, s_wet, s_lost, s_eaten, s_tied, s_ripeMany, s_gone, pl, he, s_many, s_lying, s_ripe) := by
  have h0 := ok.1
  have h1 := ok.2.2.1
  have hpl := hS.2.2.2.2.2.2.2.1
  have hhe := hS.2.2.2.2.2.2.2.2.1
  have h2 := os.2.2.2.1 r hr
  unfold f_X4_go
  simp (disch := omega) only [ixb_nI, nI_cl, if_true, hpl r hr, lit, nI_eqI]
  by_cases h : gPl σ r = b
  · rw [if_pos h, if_pos h]
    rw [if_pos h]
    exact ⟨s_place, s_heard, rfl, hS⟩
  · rw [if_neg h, if_neg h, c_wordsIn hS os hb, b1_s]
    rw [if_neg h]
    refine ⟨_, _, rfl, ?_⟩
    obtain ⟨r1, r2, r3, r4, r5, r6, r7, r8, r9, r10, r11, r12⟩ := hS
    refine ⟨r1, r2, r3, r4, r5, r6, r7, fun r' hr' => ?_, fun r' hr' => ?_, r10, r11, r12⟩
    · show upd s_place r (nI b) r' = nI (fup (gPl σ) r b r')
      by_cases e : r' = r
      · subst e; rw [upd_s, fup_s]
      · rw [upd_n e, fup_n e]; exact r8 r' hr'
    · show upd s_heard r (s_heard r ||| bitsOf (gLy σ b)) r' = fup (gHe σ) r (gHe σ r ||| bitsOf (gLy σ b)) r'
      by_cases e : r' = r
      · subst e; rw [upd_s, fup_s, hhe _ hr]
      · rw [upd_n e, fup_n e]; exact r9 r' hr'
theorem c_tie (hS : RS π σ (s_year, s_wet, s_lost, s_eaten, s_tied, s_ripeMany, s_gone, s_place, s_heard, s_many, s_lying, s_ripe)) (ok : OkP π) {l : Nat} (hl : l < gL π) : RS π (oTie l σ) (s_year, s_wet, s_lost, s_eaten, s_tied ^^^ ((1 : Int32) <<< (nI l &&& 31)), s_ripeMany, s_gone, s_place, s_heard, s_many, s_lying, s_ripe) := by
  have h1 := ok.2.1
  obtain ⟨r1, r2, r3, r4, r5, r6, r7, r8, r9, r10, r11, r12⟩ := hS
  refine ⟨r1, r2, r3, r4, fun j hj => ?_, r6, r7, r8, r9, r10, r11, r12⟩
  show ((s_tied ^^^ ((1 : Int32) <<< (nI l &&& 31))) >>> (nI j &&& 31)) &&& 1 = (if fup (gTi σ) l (!gTi σ l) j then 1 else 0)
  have h5 : ∀ j, j < gL π → bt s_tied j = gTi σ j := fun j hj => by
    have h := r5 j hj
    rw [tbit _ (by omega)] at h
    unfold tdB at h
    revert h
    cases bt s_tied j <;> cases gTi σ j <;> simp
  rw [tbit _ (by omega), b_xor, b_one (by omega) (by omega), h5 j hj]
  by_cases e : j = l
  · subst e; rw [fup_s]; cases gTi σ j <;> simp
  · rw [fup_n e, decide_eq_false e]; cases gTi σ j <;> simp
theorem c_isTied (hS : RS π σ (s_year, s_wet, s_lost, s_eaten, s_tied, s_ripeMany, s_gone, s_place, s_heard, s_many, s_lying, s_ripe)) {l : Nat} (hl : l < gL π) : f_X4_isTied s_tied (nI l) = some (tdB (gTi σ) l) := by
  have h := hS.2.2.2.2.1 l hl
  unfold f_X4_isTied f_X9_has
  rw [h]
  unfold tdB
  cases gTi σ l <;> rfl
end OE
