/-! ===== the class's State: the beginning ===== -/
section OB
variable {π : Pg} {p_beds p_letters p_readers : Int32} {p_far p_drain p_length p_words p_home : Nat → Int32}
theorem c_begin {s_year s_wet s_lost s_eaten s_tied s_ripeMany : Int32} {s_gone s_place s_heard s_many s_lying s_ripe : Nat → Int32} (hP : RPc π (p_beds, p_letters, p_readers, p_far, p_drain, p_length, p_words, p_home)) (ok : OkP π) : ∃ go pl he ma, f_X4_begin s_year s_wet s_lost s_eaten s_tied s_ripeMany s_gone s_place s_heard s_many p_home = some (0, 0, 0, 0, 0, 0, go, pl, he, ma) ∧ RS π (oBegin π) (0, 0, 0, 0, 0, 0, go, pl, he, ma, s_lying, s_ripe) := by
  have h0 := ok.2.1
  have h1 := ok.2.2.1
  unfold f_X4_begin
  obtain ⟨go, e1, q1⟩ := loopR (A := Unit) (C := Nat → Int32) (F := fun n c x => f_X4_begin_32 p_home n x 0 0 0 0 0 0 c s_place s_heard s_many) (B := 6) (step := fun _ _ => ()) (fin := fun c => f_X4_begin_53 p_home FU 0 0 0 0 0 0 0 c s_place s_heard s_many) (Q := fun k _ c => ∀ j, j < k → c j = 0) (fun n c => by
      show f_X4_begin_32 p_home (n + 1) (nI 6) 0 0 0 0 0 0 c s_place s_heard s_many = _
      rw [f_X4_begin_32]; rfl) (fun n _ c k hk hq => ⟨upd c k 0, by
      show f_X4_begin_32 p_home (n + 1) (nI k) 0 0 0 0 0 0 c s_place s_heard s_many = f_X4_begin_32 p_home n (nI (k + 1)) 0 0 0 0 0 0 _ s_place s_heard s_many
      rw [f_X4_begin_32]
      simp (disch := omega) only [lit, nI_leJ, ixb_nI, nI_cl, if_true, nI_add]
      rw [if_neg (by omega)], fun j hj => by
      by_cases e : j = k
      · subst e; exact upd_s _ _ _
      · rw [upd_n e]; exact hq j (by omega)⟩) 6 0 FU () s_gone (by omega) (FU_gt (by omega)) (fun j hj => absurd hj (Nat.not_lt_zero _))
  obtain ⟨⟨pl, he⟩, e2, q2, q3⟩ := loopR (A := Unit) (C := (Nat → Int32) × (Nat → Int32)) (F := fun n c x => f_X4_begin_53 p_home n x 0 0 0 0 0 0 go c.1 c.2 s_many) (B := 5) (step := fun _ _ => ()) (fin := fun c => f_X4_begin_85 p_home FU 0 0 0 0 0 0 0 go c.1 c.2 s_many) (Q := fun k _ c => (∀ j, j < k → c.1 j = p_home j) ∧ ∀ j, j < k → c.2 j = 0) (fun n c => by
      show f_X4_begin_53 p_home (n + 1) (nI 5) 0 0 0 0 0 0 go c.1 c.2 s_many = _
      rw [f_X4_begin_53]; rfl) (fun n _ c k hk hq => ⟨(upd c.1 k (p_home k), upd c.2 k 0), by
      show f_X4_begin_53 p_home (n + 1) (nI k) 0 0 0 0 0 0 go c.1 c.2 s_many = f_X4_begin_53 p_home n (nI (k + 1)) 0 0 0 0 0 0 go _ _ s_many
      rw [f_X4_begin_53]
      simp (disch := omega) only [lit, nI_leJ, ixb_nI, nI_cl, if_true, nI_add]
      rw [if_neg (by omega)], fun j hj => by
      show upd c.1 k (p_home k) j = p_home j
      by_cases e : j = k
      · subst e; exact upd_s _ _ _
      · rw [upd_n e]; exact hq.1 j (by omega), fun j hj => by
      show upd c.2 k 0 j = 0
      by_cases e : j = k
      · subst e; exact upd_s _ _ _
      · rw [upd_n e]; exact hq.2 j (by omega)⟩) 5 0 FU () (s_place, s_heard) (by omega) (FU_gt (by omega)) ⟨fun j hj => absurd hj (Nat.not_lt_zero _), fun j hj => absurd hj (Nat.not_lt_zero _)⟩
  obtain ⟨ma, e3, q4⟩ := loopR (A := Unit) (C := Nat → Int32) (F := fun n c x => f_X4_begin_85 p_home n x 0 0 0 0 0 0 go pl he c) (B := 6) (step := fun _ _ => ()) (fin := fun c => some (0, 0, 0, 0, 0, 0, go, pl, he, c)) (Q := fun k _ c => ∀ j, j < k → c j = 0) (fun n c => by
      show f_X4_begin_85 p_home (n + 1) (nI 6) 0 0 0 0 0 0 go pl he c = _
      rw [f_X4_begin_85]; rfl) (fun n _ c k hk hq => ⟨upd c k 0, by
      show f_X4_begin_85 p_home (n + 1) (nI k) 0 0 0 0 0 0 go pl he c = f_X4_begin_85 p_home n (nI (k + 1)) 0 0 0 0 0 0 go pl he _
      rw [f_X4_begin_85]
      simp (disch := omega) only [lit, nI_leJ, ixb_nI, nI_cl, if_true, nI_add]
      rw [if_neg (by omega)], fun j hj => by
      by_cases e : j = k
      · subst e; exact upd_s _ _ _
      · rw [upd_n e]; exact hq j (by omega)⟩) 6 0 FU () s_many (by omega) (FU_gt (by omega)) (fun j hj => absurd hj (Nat.not_lt_zero _))
  have q2 : ∀ j, j < 5 → pl j = p_home j := q2
  have q3 : ∀ j, j < 5 → he j = 0 := q3
  refine ⟨go, pl, he, ma, e1.trans (e2.trans e3), rfl, rfl, rfl, rfl, fun l hl => ?_, rfl, fun l hl => q1 l (by omega), fun r hr => ?_, fun r hr => q3 r (by omega), fun b hb => q4 b hb, fun b k hb hk => absurd hk (Nat.not_lt_zero _), fun k hk => absurd hk (Nat.not_lt_zero _)⟩
  · exact (by decide : ∀ l : Fin 6, ((0 : Int32) >>> (nI l.1 &&& 31)) &&& 1 = 0) ⟨l, by omega⟩
  · rw [q2 r (by omega), hP.2.2.2.2.2 r hr]; rfl
end OB
