/-! ===== the class's State: winds, the beginning, copies ===== -/
theorem okS_blow1 {π : Pg} {N r : Nat} {q : Bool × Sg} (os : OkS π q.2) : OkS π (oBlow1 π N r q).2 := by
  unfold oBlow1
  by_cases h : gFa π (gPl q.2 r) ≤ N
  · rw [if_pos h]; obtain ⟨h1, h2, h3, h4, h5, h6, h7⟩ := os; exact ⟨h1, h2, h3, h4, h5, h6, h7⟩
  · rw [if_neg h]; exact os
theorem okS_blow {π : Pg} {N : Nat} {σ : Sg} (os : OkS π σ) : OkS π (oBlow π N σ).2 := itN_inv (P := fun _ (q : Bool × Sg) => OkS π q.2) (B := gR π) (fun k q _ h => okS_blow1 h) (gR π) 0 (false, σ) (by omega) os
theorem okS_tie {π : Pg} {l : Nat} {σ : Sg} (os : OkS π σ) : OkS π (oTie l σ) := os
section OG
variable {π : Pg} {σ : Sg} {s_year s_wet s_lost s_eaten s_tied s_ripeMany : Int32} {s_gone s_place s_heard s_many s_lying s_ripe : Nat → Int32}
variable {p_beds p_letters p_readers : Int32} {p_far p_drain p_length p_words p_home : Nat → Int32}
theorem c_blow (hS : RS π σ (s_year, s_wet, s_lost, s_eaten, s_tied, s_ripeMany, s_gone, s_place, s_heard, s_many, s_lying, s_ripe)) (hP : RPc π (p_beds, p_letters, p_readers, p_far, p_drain, p_length, p_words, p_home)) (ok : OkP π) (os : OkS π σ) {N : Nat} (hN : N < 1000) : ∃ he, f_X4_blow s_gone s_place s_heard p_letters p_readers p_far p_length p_words (nI N) = some (if (oBlow π N σ).1 then 1 else 0, he) ∧ RS π (oBlow π N σ).2 (s_year, s_wet, s_lost, s_eaten, s_tied, s_ripeMany, s_gone, s_place, he, s_many, s_lying, s_ripe) := by
  have h0 := ok.1
  have h1 := ok.2.2.1
  have hl : p_readers = nI (gR π) := hP.2.2.1
  unfold f_X4_blow
  obtain ⟨⟨x, he⟩, e, ⟨q1, q2, q3⟩⟩ := loopR (A := Bool × Sg) (C := Int32 × (Nat → Int32)) (F := fun n c x => f_X4_blow_5 s_gone s_place p_letters p_readers p_far p_length p_words (nI N) n c.1 x c.2) (B := gR π) (step := oBlow1 π N) (fin := fun c => if zok c.1 then some (c.1, c.2) else none) (Q := fun k q c => OkS π q.2 ∧ c.1 = (if q.1 then 1 else 0) ∧ RS π q.2 (s_year, s_wet, s_lost, s_eaten, s_tied, s_ripeMany, s_gone, s_place, c.2, s_many, s_lying, s_ripe)) (fun n c => by
      show f_X4_blow_5 s_gone s_place p_letters p_readers p_far p_length p_words (nI N) (n + 1) c.1 (nI (gR π)) c.2 = _
      rw [f_X4_blow_5, hl, if_pos (Int32.le_refl _)]) (fun n q c k hk hq => by
      obtain ⟨x, he⟩ := c
      obtain ⟨nw, τ⟩ := q
      obtain ⟨ot, hx, hT⟩ := hq
      have ot : OkS π τ := ot
      have hx : x = (if nw then 1 else 0) := hx
      have hT : RS π τ (s_year, s_wet, s_lost, s_eaten, s_tied, s_ripeMany, s_gone, s_place, he, s_many, s_lying, s_ripe) := hT
      have hhe := hT.2.2.2.2.2.2.2.2.1
      have okN : OkS π (oBlow1 π N k (nw, τ)).2 := okS_blow1 ot
      have htd := c_toldBy hT hP ok ot hk hN
      show ∃ c' : Int32 × (Nat → Int32), f_X4_blow_5 s_gone s_place p_letters p_readers p_far p_length p_words (nI N) (n + 1) x (nI k) he = f_X4_blow_5 s_gone s_place p_letters p_readers p_far p_length p_words (nI N) n c'.1 (nI (k + 1)) c'.2 ∧ OkS π (oBlow1 π N k (nw, τ)).2 ∧ c'.1 = (if (oBlow1 π N k (nw, τ)).1 then 1 else 0) ∧ RS π (oBlow1 π N k (nw, τ)).2 (s_year, s_wet, s_lost, s_eaten, s_tied, s_ripeMany, s_gone, s_place, c'.2, s_many, s_lying, s_ripe)
      have hval : f_X4_blow_5 s_gone s_place p_letters p_readers p_far p_length p_words (nI N) (n + 1) x (nI k) he = f_X4_blow_5 s_gone s_place p_letters p_readers p_far p_length p_words (nI N) n (if (oBlow1 π N k (nw, τ)).1 then 1 else 0) (nI (k + 1)) (upd he k (he k ||| (if gFa π (gPl τ k) ≤ N then nexts π τ else 0))) := by
        rw [f_X4_blow_5, hl]
        simp (disch := omega) only [nI_leJ, ixb_nI, nI_cl, if_true]
        rw [if_neg (by omega), htd, b1_s, hx]
        unfold f_X4_blow_48 oBlow1
        simp (disch := omega) only [lit, nI_add, ixb_nI, nI_cl, if_true]
        rw [hhe k hk]
        cases nw
        · by_cases hf : gFa π (gPl τ k) ≤ N
          · by_cases hz : (nexts π τ &&& (gHe τ k ^^^ -nI 1)) = nI 0
            · have hz' : (nexts π τ &&& (gHe τ k ^^^ -1)) = 0 := hz
              simp [hf, hz, hz']
            · have hz' : ¬ (nexts π τ &&& (gHe τ k ^^^ -1)) = 0 := hz
              simp [hf, hz, hz']
          · have hz : ((0 : Int32) &&& (gHe τ k ^^^ -1)) = 0 := z_and _
            have hz' : ((nI 0) &&& (gHe τ k ^^^ -nI 1)) = nI 0 := hz
            simp [hf, hz']
        · by_cases hf : gFa π (gPl τ k) ≤ N
          · simp [hf]
            exact fun h => absurd h (by decide)
          · simp [hf]
            exact fun h => absurd h (by decide)
      refine ⟨(_, _), hval, okN, rfl, ?_⟩
      obtain ⟨r1, r2, r3, r4, r5, r6, r7, r8, r9, r10, r11, r12⟩ := hT
      unfold oBlow1
      by_cases hf : gFa π (gPl τ k) ≤ N
      · rw [if_pos hf, if_pos hf]
        refine ⟨r1, r2, r3, r4, r5, r6, r7, r8, fun r' hr' => ?_, r10, r11, r12⟩
        show upd he k (he k ||| nexts π τ) r' = fup (gHe τ) k (gHe τ k ||| nexts π τ) r'
        by_cases e : r' = k
        · subst e; rw [upd_s, fup_s, hhe _ hk]
        · rw [upd_n e, fup_n e]; exact r9 r' hr'
      · rw [if_neg hf, if_neg hf]
        refine ⟨r1, r2, r3, r4, r5, r6, r7, r8, fun r' hr' => ?_, r10, r11, r12⟩
        show upd he k (he k ||| 0) r' = gHe τ r'
        rw [or_z]
        by_cases e : r' = k
        · subst e; rw [upd_s]; exact r9 _ hk
        · rw [upd_n e]; exact r9 r' hr')
      (gR π) 0 FU (false, σ) (0, s_heard) (by omega) (FU_gt (by omega)) ⟨os, rfl, hS⟩
  refine ⟨he, ?_, q3⟩
  have q2 : x = (if (oBlow π N σ).1 then 1 else 0) := q2
  rw [show f_X4_blow_5 s_gone s_place p_letters p_readers p_far p_length p_words (nI N) FU 0 0 s_heard = _ from e, q2]
  cases (oBlow π N σ).1 <;> rfl
theorem c_copy {t_year t_wet t_lost t_eaten t_tied t_ripeMany : Int32} {t_gone t_place t_heard t_many t_lying t_ripe : Nat → Int32} (ok : OkP π) (os : OkS π σ) (hS : RS π σ (s_year, s_wet, s_lost, s_eaten, s_tied, s_ripeMany, s_gone, s_place, s_heard, s_many, s_lying, s_ripe)) : ∃ go pl he ma ly ri, f_X4_copy t_year t_wet t_lost t_eaten t_tied t_ripeMany t_gone t_place t_heard t_many t_lying t_ripe s_year s_wet s_lost s_eaten s_tied s_ripeMany s_gone s_place s_heard s_many s_lying s_ripe = some (s_year, s_wet, s_lost, s_eaten, s_tied, s_ripeMany, go, pl, he, ma, ly, ri) ∧ RS π σ (s_year, s_wet, s_lost, s_eaten, s_tied, s_ripeMany, go, pl, he, ma, ly, ri) := by
  have h0 := ok.2.1
  have h1 := ok.2.2.1
  have h6 := os.2.2.2.2.2.1
  unfold f_X4_copy
  rw [show cpb 0 0 6 6 6 = true from by decide +kernel, show cpb 0 0 5 5 5 = true from by decide +kernel, show cpb 0 0 72 72 72 = true from by decide +kernel, show cpb 0 0 60 60 60 = true from by decide +kernel]
  simp only [if_true]
  refine ⟨_, _, _, _, _, _, rfl, ?_⟩
  have cp : ∀ (f g : Nat → Int32) (m k : Nat), k < m → va_cpy f g 0 0 m k = f k := fun f g m k hk => by
    show (if 0 ≤ k ∧ k < 0 + m then f (0 + (k - 0)) else g k) = f k
    rw [if_pos ⟨Nat.zero_le _, by omega⟩]; congr 1; omega
  obtain ⟨r1, r2, r3, r4, r5, r6, r7, r8, r9, r10, r11, r12⟩ := hS
  refine ⟨r1, r2, r3, r4, r5, r6, fun l hl => ?_, fun r hr => ?_, fun r hr => ?_, fun b hb => ?_, fun b k hb hk => ?_, fun k hk => ?_⟩
  · exact (cp s_gone t_gone 6 l (by omega)).trans (r7 l hl)
  · exact (cp s_place t_place 5 r (by omega)).trans (r8 r hr)
  · exact (cp s_heard t_heard 5 r (by omega)).trans (r9 r hr)
  · exact (cp s_many t_many 6 b hb).trans (r10 b hb)
  · have := (os.2.2.2.2.1 b).1
    exact (cp s_lying t_lying 72 _ (by omega)).trans (r11 b k hb hk)
  · exact (cp s_ripe t_ripe 60 k (by omega)).trans (r12 k hk)
end OG
