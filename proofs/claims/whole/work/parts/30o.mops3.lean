/-! ===== the model's row: more steps ===== -/
section MQ2
variable {π : Pg} {σ : Sg} {c : List Tk} {m_s m_bed m_letter m_reader m_code m_ofCode m_stack m_facts : Nat → Int32} {m_beds m_letters m_readers m_codes : Int32}
theorem m_isEaten (hS : RM π σ m_s) (ok : OkP π) (os : OkS π σ) {b : Nat} (hb : b < 6) : ∃ m1, f_X10_isEaten m_s (nI b) = some (if gLy σ b = [] then 0 else 1, m1) ∧ RM π (if gLy σ b = [] then σ else oEat b σ) m1 := by
  have hL6 := ok.2.1
  have hR5 := ok.2.2.1
  obtain ⟨r1, r2, r3, r4, r5, r6, r7, r8, r9, r10, r11, r12⟩ := id hS
  have h12 := (os.2.2.2.2.1 b).1
  unfold f_X10_isEaten
  simp (disch := omega) only [lit, nI_add, ixb_nI, nI_cl, if_true, r10 b hb, nI_eqI, r4]
  by_cases h : gLy σ b = []
  · rw [if_pos h, if_pos h, h]
    exact ⟨m_s, rfl, hS⟩
  · rw [if_neg h, if_neg h, if_neg (fun e => h (List.length_eq_zero_iff.mp e))]
    refine ⟨_, rfl, ?_⟩
    refine ⟨?_, ?_, ?_, ?_, fun l hl => ?_, ?_, fun l hl => ?_, fun s hs => ?_, fun s hs => ?_, fun b' hb' => ?_, fun b' k hb' hk => ?_, fun k hk => ?_⟩
    · rw [upd_n (by omega), upd_n (by omega)]; exact r1
    · rw [upd_n (by omega), upd_n (by omega)]; exact r2
    · rw [upd_n (by omega), upd_n (by omega)]; exact r3
    · rw [upd_n (by omega), upd_s]; rfl
    · rw [upd_n (by omega), upd_n (by omega)]; exact r5 l hl
    · rw [upd_n (by omega), upd_n (by omega)]; exact r6
    · rw [upd_n (by omega), upd_n (by omega)]; exact r7 l hl
    · rw [upd_n (by omega), upd_n (by omega)]; exact r8 s hs
    · rw [upd_n (by omega), upd_n (by omega)]; exact r9 s hs
    · show _ = nI (fup (gLy σ) b [] b').length
      by_cases e : b' = b
      · subst e; rw [upd_s, fup_s]; rfl
      · rw [upd_n (by omega), upd_n (by omega), fup_n e]; exact r10 b' hb'
    · have hk : k < (fup (gLy σ) b [] b').length := hk
      show _ = nI ((fup (gLy σ) b [] b').getD k 0)
      by_cases e : b' = b
      · subst e; rw [fup_s] at hk; exact absurd hk (Nat.not_lt_zero _)
      · rw [fup_n e] at hk ⊢
        have h13 := (os.2.2.2.2.1 b').1
        rw [upd_n (by omega), upd_n (by omega)]; exact r11 b' k hb' hk
    · have h13 := os.2.2.2.2.2.1
      have hk : k < (gRp σ).length := hk
      rw [upd_n (by omega), upd_n (by omega)]; exact r12 k hk
theorem m_isWalked (hS : RM π σ m_s) (ok : OkP π) (os : OkS π σ) {r b : Nat} (hr : r < gR π) (hb : b < 6) : ∃ m1, f_X10_isWalked m_s (nI r) (nI b) = some (if gPl σ r = b then 0 else 1, m1) ∧ RM π (if gPl σ r = b then σ else oGo r b σ) m1 := by
  have hL6 := ok.2.1
  have hR5 := ok.2.2.1
  have h0 := ok.1
  have h2 := os.2.2.2.1 r hr
  obtain ⟨r1, r2, r3, r4, r5, r6, r7, r8, r9, r10, r11, r12⟩ := id hS
  unfold f_X10_isWalked
  simp (disch := omega) only [lit, nI_add, ixb_nI, nI_cl, if_true, r8 r hr, nI_eqI]
  by_cases h : gPl σ r = b
  · rw [if_pos h, if_pos h]
    rw [if_pos h]
    exact ⟨m_s, rfl, hS⟩
  · rw [if_neg h, if_neg h]
    rw [if_neg h]
    have hW : ∀ d n k a, k + d = (gLy σ b).length → d < n → f_X10_wordsIn_4 (upd m_s (90 + r) (nI b)) (nI b) n a (nI k) = some (((gLy σ b).drop k).foldl orB a) := by
      have h12 := (os.2.2.2.2.1 b).1
      intro d
      induction d with
      | zero =>
        intro n k a hk hn
        obtain ⟨m, rfl⟩ : ∃ m, n = m + 1 := ⟨n - 1, by omega⟩
        rw [f_X10_wordsIn_4]
        simp (disch := omega) only [lit, nI_add, ixb_nI, nI_cl, if_true, upd_n, r10 b hb, nI_leJ]
        rw [if_pos (by omega), List.drop_of_length_le (by omega)]
        rfl
      | succ d ih =>
        intro n k a hk hn
        obtain ⟨m, rfl⟩ : ∃ m, n = m + 1 := ⟨n - 1, by omega⟩
        have hlt : k < (gLy σ b).length := by omega
        rw [f_X10_wordsIn_4]
        simp (disch := omega) only [lit, nI_add, nI_mul, ixb_nI, nI_cl, if_true, upd_n, r10 b hb, nI_leJ, r11 b k hb hlt]
        rw [if_neg (by omega), ih m (k + 1) _ (by omega) (by omega)]
        rw [List.drop_eq_getElem_cons hlt, List.foldl_cons]
        congr 2
        unfold orB
        rw [List.getD_eq_getElem?_getD, List.getElem?_eq_getElem hlt]
        rfl
    have hW2 : f_X10_wordsIn (upd m_s (90 + r) (nI b)) (nI b) = some (bitsOf (gLy σ b)) := by
      have h12 := (os.2.2.2.2.1 b).1
      unfold f_X10_wordsIn
      exact hW (gLy σ b).length FU 0 0 (by omega) (FU_gt (by omega))
    rw [hW2, b1_s]
    refine ⟨_, rfl, ?_⟩
    rw [upd_n (show 95 + r ≠ 90 + r by omega), r9 r hr]
    refine ⟨?_, ?_, ?_, ?_, fun l hl => ?_, ?_, fun l hl => ?_, fun s hs => ?_, fun s hs => ?_, fun b' hb' => ?_, fun b' k hb' hk => ?_, fun k hk => ?_⟩
    · rw [upd_n (by omega), upd_n (by omega)]; exact r1
    · rw [upd_n (by omega), upd_n (by omega)]; exact r2
    · rw [upd_n (by omega), upd_n (by omega)]; exact r3
    · rw [upd_n (by omega), upd_n (by omega)]; exact r4
    · rw [upd_n (by omega), upd_n (by omega)]; exact r5 l hl
    · rw [upd_n (by omega), upd_n (by omega)]; exact r6
    · rw [upd_n (by omega), upd_n (by omega)]; exact r7 l hl
    · show _ = nI (fup (gPl σ) r b s)
      by_cases e : s = r
      · subst e; rw [upd_n (by omega), upd_s, fup_s]
      · rw [upd_n (by omega), upd_n (by omega), fup_n e]; exact r8 s hs
    · show _ = fup (gHe σ) r (gHe σ r ||| bitsOf (gLy σ b)) s
      by_cases e : s = r
      · subst e; rw [upd_s, fup_s]
      · rw [upd_n (by omega), upd_n (by omega), fup_n e]; exact r9 s hs
    · rw [upd_n (by omega), upd_n (by omega)]; exact r10 b' hb'
    · have h13 := (os.2.2.2.2.1 b').1
      have hk : k < (gLy σ b').length := hk
      rw [upd_n (by omega), upd_n (by omega)]; exact r11 b' k hb' hk
    · have h13 := os.2.2.2.2.2.1
      have hk : k < (gRp σ).length := hk
      rw [upd_n (by omega), upd_n (by omega)]; exact r12 k hk
theorem m_nextWords (hS : RM π σ m_s) (hP : RPm π m_beds m_letters m_readers m_bed m_letter m_reader) (ok : OkP π) (os : OkS π σ) : f_X10_nextWords m_letter m_letters m_s = some (nexts π σ) := by
  have h1 := ok.2.1
  have hl : m_letters = nI (gL π) := hP.2.1
  unfold f_X10_nextWords
  refine loopF (F := fun n a x => f_X10_nextWords_4 m_letter m_letters m_s n a x) (B := gL π) (step := fun k a => a ||| (if gLeft π σ k = 0 then 0 else (1 : Int32) <<< (gNext π σ k &&& 31))) (fin := some) (fun n a => ?_) (fun n a k hk => ?_) (gL π) 0 FU 0 (by omega) (FU_gt (by omega))
  · show f_X10_nextWords_4 m_letter m_letters m_s (n + 1) a (nI (gL π)) = some a
    rw [f_X10_nextWords_4, hl, if_pos (Int32.le_refl _)]
  · show f_X10_nextWords_4 m_letter m_letters m_s (n + 1) a (nI k) = f_X10_nextWords_4 m_letter m_letters m_s n _ _
    have h8 := (ok.2.2.2.2.1 k hk).2.2.1
    have hg := os.2.2.1 k hk
    have h5 : gLeft π σ k ≤ 8 := by unfold gLeft; omega
    rw [f_X10_nextWords_4, hl]
    simp (disch := omega) only [nI_leJ]
    rw [if_neg (by omega), m_leftOf hS hP ok os hk, b1_s]
    simp (disch := omega) only [lit, nI_leJ]
    by_cases hz : gLeft π σ k = 0
    · rw [if_pos (by omega), if_pos hz, nI_add]
    · have hlt : gGo σ k + 0 < gLe π k := by unfold gLeft at hz; omega
      rw [if_neg (by omega), if_neg hz, m_wordOf hS hP ok os hk hlt, b1_s, nI_add]
      unfold gNext
      rw [if_neg hz]
      rfl
theorem m_newsOf (hS : RM π σ m_s) (hP : RPm π m_beds m_letters m_readers m_bed m_letter m_reader) (ok : OkP π) (os : OkS π σ) {r N : Nat} (hr : r < gR π) (hN : N < 1000) : f_X10_newsOf m_bed m_letter m_letters m_s (nI r) (nI N) = some (if gFa π (gPl σ r) ≤ N then nexts π σ &&& (gHe σ r ^^^ -1) else 0) := by
  have h0 := ok.1
  have h3 := ok.2.2.1
  have hfa := hP.2.2.2.1
  have hpl := hS.2.2.2.2.2.2.2.1
  have hhe := hS.2.2.2.2.2.2.2.2.1
  have h2 := os.2.2.2.1 r hr
  have h4 := ok.2.2.2.1 _ h2
  unfold f_X10_newsOf
  simp (disch := omega) only [lit, nI_add, ixb_nI, nI_cl, hpl r hr, if_true, hfa _ h2, nI_ltJ, hhe r hr]
  by_cases h : gFa π (gPl σ r) ≤ N
  · rw [if_pos h, if_neg (by omega), m_nextWords hS hP ok os, b1_s]
  · rw [if_neg h, if_pos (by omega)]
theorem m_isBlown (hS : RM π σ m_s) (hP : RPm π m_beds m_letters m_readers m_bed m_letter m_reader) (ok : OkP π) (os : OkS π σ) {N : Nat} (hN : N < 1000) : ∃ m1, f_X10_isBlown m_bed m_letter m_letters m_readers m_s (nI N) = some (if (oBlow π N σ).1 then 1 else 0, m1) ∧ RM π (oBlow π N σ).2 m1 := by
  have h0 := ok.1
  have hL6 := ok.2.1
  have hR5 := ok.2.2.1
  have hl : m_readers = nI (gR π) := hP.2.2.1
  unfold f_X10_isBlown
  obtain ⟨⟨x, m1⟩, e, ⟨q1, q2, q3⟩⟩ := loopR (A := Bool × Sg) (C := Int32 × (Nat → Int32)) (F := fun n c x => f_X10_isBlown_4 m_bed m_letter m_letters m_readers (nI N) n c.1 x c.2) (B := gR π) (step := oBlow1 π N) (fin := fun c => if zok c.1 then some (c.1, c.2) else none) (Q := fun k q c => OkS π q.2 ∧ c.1 = (if q.1 then 1 else 0) ∧ RM π q.2 c.2) (fun n c => by
      show f_X10_isBlown_4 m_bed m_letter m_letters m_readers (nI N) (n + 1) c.1 (nI (gR π)) c.2 = _
      rw [f_X10_isBlown_4, hl, if_pos (Int32.le_refl _)]) (fun n q c k hk hq => by
      obtain ⟨x, m⟩ := c
      obtain ⟨nw, τ⟩ := q
      obtain ⟨ot, hx, hT⟩ := hq
      have ot : OkS π τ := ot
      have hx : x = (if nw then 1 else 0) := hx
      have hT : RM π τ m := hT
      have okN : OkS π (oBlow1 π N k (nw, τ)).2 := okS_blow1 ot
      have htd := m_newsOf hT hP ok ot hk hN
      obtain ⟨r1, r2, r3, r4, r5, r6, r7, r8, r9, r10, r11, r12⟩ := id hT
      show ∃ c' : Int32 × (Nat → Int32), f_X10_isBlown_4 m_bed m_letter m_letters m_readers (nI N) (n + 1) x (nI k) m = f_X10_isBlown_4 m_bed m_letter m_letters m_readers (nI N) n c'.1 (nI (k + 1)) c'.2 ∧ OkS π (oBlow1 π N k (nw, τ)).2 ∧ c'.1 = (if (oBlow1 π N k (nw, τ)).1 then 1 else 0) ∧ RM π (oBlow1 π N k (nw, τ)).2 c'.2
      have hval : f_X10_isBlown_4 m_bed m_letter m_letters m_readers (nI N) (n + 1) x (nI k) m = f_X10_isBlown_4 m_bed m_letter m_letters m_readers (nI N) n (if (oBlow1 π N k (nw, τ)).1 then 1 else 0) (nI (k + 1)) (upd m (95 + k) (gHe τ k ||| (if gFa π (gPl τ k) ≤ N then nexts π τ &&& (gHe τ k ^^^ -1) else 0))) := by
        rw [f_X10_isBlown_4, hl]
        simp (disch := omega) only [nI_leJ]
        rw [if_neg (by omega), htd, b1_s, hx]
        unfold f_X10_isBlown_34 oBlow1
        simp (disch := omega) only [lit, nI_add, ixb_nI, nI_cl, if_true, r9 k hk]
        cases nw
        · by_cases hf : gFa π (gPl τ k) ≤ N
          · by_cases hz : (nexts π τ &&& (gHe τ k ^^^ -nI 1)) = nI 0
            · have hz' : (nexts π τ &&& (gHe τ k ^^^ -1)) = 0 := hz
              simp [hf, hz, hz']
            · have hz' : ¬ (nexts π τ &&& (gHe τ k ^^^ -1)) = 0 := hz
              simp [hf, hz, hz']
          · simp [hf]
        · by_cases hf : gFa π (gPl τ k) ≤ N
          · by_cases hz : (nexts π τ &&& (gHe τ k ^^^ -nI 1)) = nI 0
            · simp [hf, hz]
              exact fun h => absurd h (by decide)
            · simp [hf, hz]
          · simp [hf]
            exact fun h => absurd h (by decide)
      refine ⟨(_, _), hval, okN, rfl, ?_⟩
      have gen : ∀ v : Int32, RM π (τ.1, gTi τ, gGo τ, gPl τ, fup (gHe τ) k v, gLy τ, gRp τ) (upd m (95 + k) v) := fun v => by
        refine ⟨?_, ?_, ?_, ?_, fun l hl => ?_, ?_, fun l hl => ?_, fun s hs => ?_, fun s hs => ?_, fun b' hb' => ?_, fun b' j hb' hj => ?_, fun j hj => ?_⟩
        · rw [upd_n (by omega)]; exact r1
        · rw [upd_n (by omega)]; exact r2
        · rw [upd_n (by omega)]; exact r3
        · rw [upd_n (by omega)]; exact r4
        · rw [upd_n (by omega)]; exact r5 l hl
        · rw [upd_n (by omega)]; exact r6
        · rw [upd_n (by omega)]; exact r7 l hl
        · rw [upd_n (by omega)]; exact r8 s hs
        · show _ = fup (gHe τ) k v s
          by_cases e : s = k
          · subst e; rw [upd_s, fup_s]
          · rw [upd_n (by omega), fup_n e]; exact r9 s hs
        · rw [upd_n (by omega)]; exact r10 b' hb'
        · have h13 := (ot.2.2.2.2.1 b').1
          have hj : j < (gLy τ b').length := hj
          rw [upd_n (by omega)]; exact r11 b' j hb' hj
        · have h13 := ot.2.2.2.2.2.1
          have hj : j < (gRp τ).length := hj
          rw [upd_n (by omega)]; exact r12 j hj
      unfold oBlow1
      by_cases hf : gFa π (gPl τ k) ≤ N
      · rw [if_pos hf, if_pos hf, or_new]
        exact gen _
      · rw [if_neg hf, if_neg hf, or_z]
        have := gen (gHe τ k)
        have e9 : fup (gHe τ) k (gHe τ k) = gHe τ := funext fun j => by
          by_cases e : j = k
          · subst e; exact fup_s _ _ _
          · exact fup_n e
        rw [e9] at this
        exact this)
      (gR π) 0 FU (false, σ) (0, m_s) (by omega) (FU_gt (by omega)) ⟨os, rfl, hS⟩
  refine ⟨m1, ?_, q3⟩
  have q2 : x = (if (oBlow π N σ).1 then 1 else 0) := q2
  rw [show f_X10_isBlown_4 m_bed m_letter m_letters m_readers (nI N) FU 0 0 m_s = _ from e, q2]
  cases (oBlow π N σ).1 <;> rfl
end MQ2
