/-! ===== the class's State: what changes it ===== -/
section OD
variable {π : Pg} {σ : Sg} {s_year s_wet s_lost s_eaten s_tied s_ripeMany : Int32} {s_gone s_place s_heard s_many s_lying s_ripe : Nat → Int32}
variable {p_beds p_letters p_readers : Int32} {p_far p_drain p_length p_words p_home : Nat → Int32}
theorem okS_year1 (os : OkS π σ) {b : Nat} (hb : b < gB π) : OkS π (oYear1 b σ) := by
  obtain ⟨h1, h2, h3, h4, h5, h6, h7⟩ := os
  unfold oYear1
  cases h : gLy σ b with
  | nil => exact ⟨h1, h2, h3, h4, h5, h6, h7⟩
  | cons w r =>
    have hb5 := h5 b
    rw [h] at hb5
    refine ⟨h1, h2, h3, h4, fun b' => ?_, ?_, ?_⟩
    · show (fup (gLy σ) b r b').length ≤ 12 ∧ (gB π ≤ b' → fup (gLy σ) b r b' = []) ∧ ∀ w ∈ fup (gLy σ) b r b', w < 16
      by_cases e : b' = b
      · subst e
        rw [fup_s]
        refine ⟨?_, fun h9 => absurd h9 (by omega), fun x hx => hb5.2.2 x (List.mem_cons_of_mem _ hx)⟩
        have := hb5.1
        rw [List.length_cons] at this
        omega
      · rw [fup_n e]; exact h5 b'
    · show (oGrow (gRp σ) w).length ≤ 60
      unfold oGrow
      rw [List.length_append]
      by_cases e : (gRp σ).length = 60
      · rw [if_pos e, List.length_drop, e]; show 60 - 1 + 1 ≤ 60; decide
      · rw [if_neg e]; show (gRp σ).length + 1 ≤ 60; omega
    · show ∀ x ∈ oGrow (gRp σ) w, x < 16
      intro x hx
      unfold oGrow at hx
      rcases List.mem_append.mp hx with hx | hx
      · by_cases e : (gRp σ).length = 60
        · rw [if_pos e] at hx; exact h7 x (List.mem_of_mem_drop hx)
        · rw [if_neg e] at hx; exact h7 x hx
      · rw [List.mem_singleton.mp hx]; exact hb5.2.2 w List.mem_cons_self
theorem okS_years (os : OkS π σ) : OkS π (itN oYear1 (gB π) 0 σ) := itN_inv (P := fun _ τ => OkS π τ) (B := gB π) (fun k a hk h => okS_year1 h hk) (gB π) 0 σ (by omega) os
theorem okS_year (os : OkS π σ) (hy : gYr σ < 100000) : OkS π (oYear π σ) := by
  obtain ⟨h1, h2, h3, h4, h5, h6, h7⟩ := okS_years os
  refine ⟨?_, ?_, h3, h4, h5, h6, h7⟩
  · show gYr σ + 1 ≤ 100000; omega
  · show gWt σ / 2 ≤ 99; have := os.2.1; omega
theorem year1_keep (b : Nat) (σ : Sg) : (oYear1 b σ).1 = σ.1 ∧ gTi (oYear1 b σ) = gTi σ ∧ gGo (oYear1 b σ) = gGo σ ∧ gPl (oYear1 b σ) = gPl σ ∧ gHe (oYear1 b σ) = gHe σ := by
  unfold oYear1
  cases gLy σ b <;> exact ⟨rfl, rfl, rfl, rfl, rfl⟩
theorem c_passYear (hS : RS π σ (s_year, s_wet, s_lost, s_eaten, s_tied, s_ripeMany, s_gone, s_place, s_heard, s_many, s_lying, s_ripe)) (hP : RPc π (p_beds, p_letters, p_readers, p_far, p_drain, p_length, p_words, p_home)) (ok : OkP π) (os : OkS π σ) : ∃ y w rm ma ly ri, f_X4_passYear s_year s_wet s_ripeMany s_many s_lying s_ripe p_beds = some (y, w, rm, ma, ly, ri) ∧ RS π (oYear π σ) (y, w, s_lost, s_eaten, s_tied, rm, s_gone, s_place, s_heard, ma, ly, ri) := by
  have hB := ok.1
  have hl : p_beds = nI (gB π) := hP.1
  have hy : s_year = nI (gYr σ) := hS.1
  have hw : s_wet = nI (gWt σ) := hS.2.1
  have hwt := os.2.1
  unfold f_X4_passYear
  obtain ⟨⟨rm, ma, ly, ri⟩, e, q⟩ := loopR (A := Sg) (C := Int32 × (Nat → Int32) × (Nat → Int32) × (Nat → Int32)) (F := fun n c x => f_X4_passYear_2 p_beds n x s_year s_wet c.1 c.2.1 c.2.2.1 c.2.2.2) (B := gB π) (step := oYear1) (fin := fun c => some (s_year + 1, s_wet / 2, c.1, c.2.1, c.2.2.1, c.2.2.2)) (Q := fun k τ c => OkS π τ ∧ RS π τ (s_year, s_wet, s_lost, s_eaten, s_tied, c.1, s_gone, s_place, s_heard, c.2.1, c.2.2.1, c.2.2.2)) (fun n c => by
      show f_X4_passYear_2 p_beds (n + 1) (nI (gB π)) s_year s_wet c.1 c.2.1 c.2.2.1 c.2.2.2 = _
      rw [f_X4_passYear_2, hl, if_pos (Int32.le_refl _)]) (fun n τ c k hk hq => by
      obtain ⟨rm, ma, ly, ri⟩ := c
      obtain ⟨ot, hT⟩ := hq
      have hT : RS π τ (s_year, s_wet, s_lost, s_eaten, s_tied, rm, s_gone, s_place, s_heard, ma, ly, ri) := hT
      have hma := hT.2.2.2.2.2.2.2.2.2.1
      have hly := hT.2.2.2.2.2.2.2.2.2.2.1
      have hri := hT.2.2.2.2.2.2.2.2.2.2.2
      have hrm := hT.2.2.2.2.2.1
      have h12 := (ot.2.2.2.2.1 k).1
      have h16 := (ot.2.2.2.2.1 k).2.2
      show ∃ c' : Int32 × (Nat → Int32) × (Nat → Int32) × (Nat → Int32), f_X4_passYear_2 p_beds (n + 1) (nI k) s_year s_wet rm ma ly ri = f_X4_passYear_2 p_beds n (nI (k + 1)) s_year s_wet c'.1 c'.2.1 c'.2.2.1 c'.2.2.2 ∧ OkS π (oYear1 k τ) ∧ RS π (oYear1 k τ) (s_year, s_wet, s_lost, s_eaten, s_tied, c'.1, s_gone, s_place, s_heard, c'.2.1, c'.2.2.1, c'.2.2.2)
      rw [f_X4_passYear_2, hl]
      simp (disch := omega) only [nI_leJ, ixb_nI, nI_cl, if_true, hma k (by omega), lit, nI_add]
      rw [if_neg (by omega)]
      have okN := okS_year1 ot hk
      cases hL : gLy τ k with
      | nil =>
        refine ⟨(rm, ma, ly, ri), by rw [List.length_nil, if_pos (Nat.le_refl _)], okN, ?_⟩
        have e9 : oYear1 k τ = τ := by unfold oYear1; rw [hL]
        rw [e9]; exact hT
      | cons w r =>
        have hw16 : w < 16 := h16 w (by rw [hL]; exact List.mem_cons_self)
        rw [hL, List.length_cons] at h12
        rw [List.length_cons, if_neg (by omega), show (nI 0 : Int32) = nI 0 from rfl, c_lyingAt (b := k) (k := 0) hT ot (by omega) (by omega), b1_s, hL, List.length_cons, if_pos (by omega)]
        have e0 : (w :: r).getD 0 0 = w := rfl
        rw [e0]
        obtain ⟨rm2, ri2, e2, q2, q3⟩ := c_ripen (w := w) hrm hri ot.2.2.2.2.2.1
        rw [e2, b2_s]
        simp (disch := omega) only [nI_mul, nI_add, nI_cl, cpb_nI, if_true, nI_sub, Nat.add_sub_cancel]
        refine ⟨(rm2, upd ma k (nI r.length), va_cpy ly ly (k * 12 + 1) (k * 12) 11, ri2), rfl, okN, ?_⟩
        obtain ⟨r1, r2, r3, r4, r5, r6, r7, r8, r9, r10, r11, r12⟩ := hT
        have e9 : oYear1 k τ = (τ.1, gTi τ, gGo τ, gPl τ, gHe τ, fup (gLy τ) k r, oGrow (gRp τ) w) := by unfold oYear1; rw [hL]
        rw [e9]
        refine ⟨r1, r2, r3, r4, r5, q2, r7, r8, r9, fun b hb => ?_, fun b j hb hj => ?_, q3⟩
        · show upd ma k (nI r.length) b = nI (fup (gLy τ) k r b).length
          by_cases e : b = k
          · subst e; rw [upd_s, fup_s]
          · rw [upd_n e, fup_n e]; exact r10 b hb
        · show va_cpy ly ly (k * 12 + 1) (k * 12) 11 (b * 12 + j) = nI ((fup (gLy τ) k r b).getD j 0)
          have hj : j < (fup (gLy τ) k r b).length := hj
          show (if k * 12 ≤ b * 12 + j ∧ b * 12 + j < k * 12 + 11 then ly (k * 12 + 1 + (b * 12 + j - k * 12)) else ly (b * 12 + j)) = _
          by_cases e : b = k
          · subst e
            rw [fup_s] at hj ⊢
            have h13 := (ot.2.2.2.2.1 b).1
            rw [hL, List.length_cons] at h13
            rw [if_pos ⟨by omega, by omega⟩, show b * 12 + 1 + (b * 12 + j - b * 12) = b * 12 + (j + 1) by omega, r11 b (j + 1) hb (by rw [hL, List.length_cons]; omega), hL, getD_co]
          · rw [fup_n e] at hj ⊢
            have h13 := (ot.2.2.2.2.1 b).1
            rw [if_neg (by omega)]
            exact r11 b j hb hj)
      (gB π) 0 FU σ (s_ripeMany, s_many, s_lying, s_ripe) (by omega) (FU_gt (by omega)) ⟨os, hS⟩
  refine ⟨_, _, _, _, _, _, e, ?_⟩
  obtain ⟨-, q⟩ := q
  obtain ⟨r1, r2, r3, r4, r5, r6, r7, r8, r9, r10, r11, r12⟩ := q
  have keep : (itN oYear1 (gB π) 0 σ).1 = σ.1 := itN_inv (P := fun _ τ => τ.1 = σ.1) (B := gB π) (fun k a _ h => (year1_keep k a).1.trans h) (gB π) 0 σ (by omega) rfl
  refine ⟨?_, ?_, ?_, ?_, r5, r6, r7, r8, r9, r10, r11, r12⟩
  · rw [hy]; exact nI_1 _
  · rw [hw, show (2 : Int32) = nI 2 from rfl, nI_div (by omega) (by decide)]; rfl
  · rw [hS.2.2.1]; rfl
  · rw [hS.2.2.2.1]; rfl
end OD
