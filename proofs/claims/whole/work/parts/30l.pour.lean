/-! ===== rain ===== -/
def envR (π : Pg) (n w : Nat) (τ : Sg) (l : Nat) : Nat → Int32 := envL (nI n) (nI w) (nI (gLeft π τ l)) (nI (gFa π (gDr π l))) (nI (gLy τ (gDr π l)).length) (nI (gYr τ)) (nI l)
/-- how many words would run out of a letter, he being as wet as w -/
def rN (π : Pg) (c : List Tk) (n w : Nat) (τ : Sg) (l : Nat) : Nat := min (gLeft π τ l) (runN (envR π n w τ l) c)
def oPour1 (π : Pg) (c : List Tk) (n l : Nat) (τ : Sg) : Sg := if gTi τ l then τ else oRun π l (rN π c n (gWt τ) τ l) τ
def oWet (n : Nat) (σ : Sg) : Sg := ((gYr σ, min 99 (gWt σ + n), gLo σ, gEa σ), σ.2)
def oPour (π : Pg) (c : List Tk) (n : Nat) (σ : Sg) : Sg := itN (oPour1 π c n) (gL π) 0 (oWet n σ)
theorem run_keep (π : Pg) (l : Nat) : ∀ (N k : Nat) (σ : Sg), gTi (itN (fun _ τ => oDrop π l τ) N k σ) = gTi σ ∧ gWt (itN (fun _ τ => oDrop π l τ) N k σ) = gWt σ ∧ gYr (itN (fun _ τ => oDrop π l τ) N k σ) = gYr σ := by
  intro N
  induction N with
  | zero => intro k σ; exact ⟨rfl, rfl, rfl⟩
  | succ N ih =>
    intro k σ
    obtain ⟨h1, h2, h3⟩ := ih (k + 1) (oDrop π l σ)
    obtain ⟨k1, k2, k3, -⟩ := drop_keep π σ l
    exact ⟨h1.trans k1, h2.trans k2, h3.trans k3⟩
theorem okS_wet {π : Pg} {n : Nat} {σ : Sg} (os : OkS π σ) : OkS π (oWet n σ) := by
  obtain ⟨h1, h2, h3, h4, h5, h6, h7⟩ := os
  exact ⟨h1, Nat.min_le_left _ _, h3, h4, h5, h6, h7⟩
section OP
variable {π : Pg} {σ : Sg} {c : List Tk} {s_year s_wet s_lost s_eaten s_tied s_ripeMany : Int32} {s_gone s_place s_heard s_many s_lying s_ripe : Nat → Int32}
variable {p_beds p_letters p_readers : Int32} {p_far p_drain p_length p_words p_home : Nat → Int32} {l_code l_values l_stack : Nat → Int32} {l_length : Int32}
theorem c_runOf (hS : RS π σ (s_year, s_wet, s_lost, s_eaten, s_tied, s_ripeMany, s_gone, s_place, s_heard, s_many, s_lying, s_ripe)) (hP : RPc π (p_beds, p_letters, p_readers, p_far, p_drain, p_length, p_words, p_home)) (ok : OkP π) (os : OkS π σ) (hR : RLc c l_code l_length) (okl : OkL c) {l n w : Nat} (hl : l < gL π) : ∃ va st, f_X4_runOf s_year s_gone s_many p_far p_drain p_length l_code l_values l_stack l_length (nI l) (nI n) (nI w) = some (nI (rN π c n w σ l), va, st) := by
  have h0 := ok.1
  have h1 := ok.2.1
  have hd := (ok.2.2.2.2.1 l hl).1
  have h8 := (ok.2.2.2.2.1 l hl).2.2.1
  have hle := hP.2.2.2.2.1
  have hfa := hP.2.2.2.1 _ hd
  have hma := hS.2.2.2.2.2.2.2.2.2.1 _ (Nat.lt_of_lt_of_le hd h0)
  unfold f_X4_runOf
  rw [c_leftOf hS hP ok os hl, b1_s]
  simp (disch := omega) only [ixb_nI, nI_cl, if_true, (hle l hl).1, hfa, hma]
  rw [hS.1]
  obtain ⟨va, st, e⟩ := c_tells (l_values := l_values) (l_stack := l_stack) (n1 := nI n) (n2 := nI w) (n3 := nI (gLeft π σ l)) (n4 := nI (gFa π (gDr π l))) (n5 := nI (gLy σ (gDr π l)).length) (n6 := nI (gYr σ)) (n7 := nI l) hR okl
  rw [e, b3_s]
  have hr := runN_le (envR π n w σ l) c
  have hlf : gLeft π σ l ≤ 8 := by unfold gLeft; omega
  refine ⟨va, st, ?_⟩
  rw [imin_nI (by omega) (Nat.lt_of_le_of_lt (runN_le _ _) (by omega))]
  rfl
theorem c_wetBy (hS : RS π σ (s_year, s_wet, s_lost, s_eaten, s_tied, s_ripeMany, s_gone, s_place, s_heard, s_many, s_lying, s_ripe)) (os : OkS π σ) {n : Nat} (hn : n < 1000) : f_X4_wetBy s_wet (nI n) = some (nI (min 99 (gWt σ + n))) := by
  have h := os.2.1
  unfold f_X4_wetBy
  rw [hS.2.1, show (99 : Int32) = nI 99 from rfl, nI_add, imin_nI (by omega) (by omega)]
theorem c_pour (hS : RS π σ (s_year, s_wet, s_lost, s_eaten, s_tied, s_ripeMany, s_gone, s_place, s_heard, s_many, s_lying, s_ripe)) (hP : RPc π (p_beds, p_letters, p_readers, p_far, p_drain, p_length, p_words, p_home)) (ok : OkP π) (os : OkS π σ) (hR : RLc c l_code l_length) (okl : OkL c) {N : Nat} (hN : N < 1000) : ∃ w lo go ma ly va st, f_X4_pour s_year s_wet s_lost s_tied s_gone s_many s_lying p_letters p_far p_drain p_length p_words l_code l_values l_stack l_length (nI N) = some (w, lo, go, ma, ly, va, st) ∧ RS π (oPour π c N σ) (s_year, w, lo, s_eaten, s_tied, s_ripeMany, go, s_place, s_heard, ma, ly, s_ripe) ∧ OkS π (oPour π c N σ) := by
  have h0 := ok.1
  have h1 := ok.2.1
  have hl : p_letters = nI (gL π) := hP.2.1
  unfold f_X4_pour
  rw [c_wetBy hS os hN, b1_s]
  generalize hW : min 99 (gWt σ + N) = W
  have hS0 : RS π (oWet N σ) (s_year, nI W, s_lost, s_eaten, s_tied, s_ripeMany, s_gone, s_place, s_heard, s_many, s_lying, s_ripe) := by
    obtain ⟨r1, r2, r3, r4, r5, r6, r7, r8, r9, r10, r11, r12⟩ := hS
    exact ⟨r1, by rw [← hW]; rfl, r3, r4, r5, r6, r7, r8, r9, r10, r11, r12⟩
  obtain ⟨⟨lo, go, ma, ly, va, st⟩, e, ⟨q1, q2, q3⟩⟩ := loopR (A := Sg) (C := Int32 × (Nat → Int32) × (Nat → Int32) × (Nat → Int32) × (Nat → Int32) × (Nat → Int32)) (F := fun n q x => f_X4_pour_12 s_year s_tied p_letters p_far p_drain p_length p_words l_code l_length (nI N) n x (nI W) q.1 q.2.1 q.2.2.1 q.2.2.2.1 q.2.2.2.2.1 q.2.2.2.2.2) (B := gL π) (step := oPour1 π c N) (fin := fun q => some (nI W, q.1, q.2.1, q.2.2.1, q.2.2.2.1, q.2.2.2.2.1, q.2.2.2.2.2)) (Q := fun k τ q => OkS π τ ∧ gWt τ = W ∧ RS π τ (s_year, nI W, q.1, s_eaten, s_tied, s_ripeMany, q.2.1, s_place, s_heard, q.2.2.1, q.2.2.2.1, s_ripe)) (fun n q => by
      show f_X4_pour_12 s_year s_tied p_letters p_far p_drain p_length p_words l_code l_length (nI N) (n + 1) (nI (gL π)) (nI W) q.1 q.2.1 q.2.2.1 q.2.2.2.1 q.2.2.2.2.1 q.2.2.2.2.2 = _
      rw [f_X4_pour_12, hl, if_pos (Int32.le_refl _)]) (fun n τ q k hk hq => by
      obtain ⟨lo, go, ma, ly, va, st⟩ := q
      obtain ⟨ot, hw, hT⟩ := hq
      have hT : RS π τ (s_year, nI W, lo, s_eaten, s_tied, s_ripeMany, go, s_place, s_heard, ma, ly, s_ripe) := hT
      have h8 := (ok.2.2.2.2.1 k hk).2.2.1
      show ∃ c' : Int32 × (Nat → Int32) × (Nat → Int32) × (Nat → Int32) × (Nat → Int32) × (Nat → Int32), f_X4_pour_12 s_year s_tied p_letters p_far p_drain p_length p_words l_code l_length (nI N) (n + 1) (nI k) (nI W) lo go ma ly va st = f_X4_pour_12 s_year s_tied p_letters p_far p_drain p_length p_words l_code l_length (nI N) n (nI (k + 1)) (nI W) c'.1 c'.2.1 c'.2.2.1 c'.2.2.2.1 c'.2.2.2.2.1 c'.2.2.2.2.2 ∧ OkS π (oPour1 π c N k τ) ∧ gWt (oPour1 π c N k τ) = W ∧ RS π (oPour1 π c N k τ) (s_year, nI W, c'.1, s_eaten, s_tied, s_ripeMany, c'.2.1, s_place, s_heard, c'.2.2.1, c'.2.2.2.1, s_ripe)
      rw [f_X4_pour_12, hl]
      simp (disch := omega) only [nI_leJ]
      rw [if_neg (by omega), c_isTied hT hk, b1_s]
      unfold oPour1 tdB
      cases hti : gTi τ k with
      | true =>
        refine ⟨(lo, go, ma, ly, va, st), ?_, ot, hw, hT⟩
        simp only [if_true]
        rw [if_neg (by decide), nI_1]
      | false =>
        simp only [Bool.false_eq_true, if_false, if_true]
        rw [c_leftOf hT hP ok ot hk, b1_s, show (0 : Int32) = nI 0 from rfl]
        have hlf : gLeft π τ k ≤ 8 := by unfold gLeft; omega
        simp (disch := omega) only [nI_leJ]
        by_cases hz : gLeft π τ k ≤ 0
        · rw [if_pos hz, nI_1]
          have e0 : rN π c N (gWt τ) τ k = 0 := by unfold rN; rw [Nat.min_eq_left (by omega)]; omega
          rw [e0]
          exact ⟨(lo, go, ma, ly, va, st), rfl, ot, hw, hT⟩
        · rw [if_neg hz]
          obtain ⟨va2, st2, e2⟩ := c_runOf (l_values := va) (l_stack := st) (n := N) (w := W) hT hP ok ot hR okl hk
          rw [e2, b3_s, ← hw]
          obtain ⟨lo3, go3, ma3, ly3, e3, q3, o3⟩ := c_runOut (N := rN π c N (gWt τ) τ k) hT hP ok ot hk (Nat.min_le_left _ _)
          rw [e3, b4_s, nI_1]
          refine ⟨(lo3, go3, ma3, ly3, va2, st2), rfl, o3, ?_, ?_⟩
          · exact (run_keep π k _ 0 τ).2.1
          · rw [hw] at q3 ⊢; exact q3)
      (gL π) 0 FU (oWet N σ) (s_lost, s_gone, s_many, s_lying, l_values, l_stack) (by omega) (FU_gt (by omega)) ⟨okS_wet os, hW, hS0⟩
  exact ⟨_, _, _, _, _, _, _, e, q3, q1⟩
end OP
