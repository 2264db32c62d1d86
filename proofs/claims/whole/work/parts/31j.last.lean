/-! ===== the book: what fits ===== -/
theorem itN_end {A : Type} {step : Nat → A → A} : ∀ (d k : Nat) (a : A), itN step (d + 1) k a = step (k + d) (itN step d k a) := by
  intro d
  induction d with
  | zero => intro k a; rfl
  | succ d ih =>
    intro k a
    show itN step (d + 1) (k + 1) (step k a) = step (k + (d + 1)) (itN step d (k + 1) (step k a))
    rw [ih, show k + 1 + d = k + (d + 1) by omega]
theorem itN_app {A : Type} {step : Nat → A → A} : ∀ (e d k : Nat) (a : A), itN step (d + e) k a = itN step e (k + d) (itN step d k a) := by
  intro e
  induction e with
  | zero => intro d k a; rfl
  | succ e ih =>
    intro d k a
    rw [show d + (e + 1) = (d + e) + 1 by omega, itN_end, itN_end, ih, show k + (d + e) = k + d + e by omega]
theorem itN_shift {A : Type} {s1 s2 : Nat → A → A} {c1 c2 : Nat} (h : ∀ i a, s1 (c1 + i) a = s2 (c2 + i) a) : ∀ (d : Nat) (i : Nat) (a : A), itN s1 d (c1 + i) a = itN s2 d (c2 + i) a := by
  intro d
  induction d with
  | zero => intro i a; rfl
  | succ d ih =>
    intro i a
    show itN s1 d (c1 + i + 1) (s1 (c1 + i) a) = itN s2 d (c2 + i + 1) (s2 (c2 + i) a)
    rw [h]
    exact ih (i + 1) _
/-- nine by nine, or all in a row -/
theorem itN_nine {A : Type} {st : Nat → A → A} : ∀ (L : Nat) (a : A), itN (fun l a => itN (fun n a => st (9 * l + n - 1) a) 9 1 a) L 0 a = itN st (9 * L) 0 a := by
  intro L
  induction L with
  | zero => intro a; rfl
  | succ L ih =>
    intro a
    rw [itN_end, ih, show 9 * (L + 1) = 9 * L + 9 by omega, itN_app]
    refine itN_shift (c1 := 1) (c2 := 0 + 9 * L) (fun i a => ?_) 9 0 _
    show st (9 * (0 + L) + (1 + i) - 1) a = st (0 + 9 * L + i) a
    rw [show 9 * (0 + L) + (1 + i) - 1 = 0 + 9 * L + i by omega]
def lastOf (L : List Nat) : Nat := if L.length = 0 then 16 else L.getD (L.length - 1) 0
def lastS (π : Pg) (σ : Sg) (l n b : Nat) : Nat := lastOf (gLy (oRun π l (min n (gLeft π σ l)) σ) b)
theorem lastOf_app (L : List Nat) (w : Nat) : lastOf (L ++ [w]) = w := by
  unfold lastOf
  rw [List.length_append]
  show (if L.length + 1 = 0 then 16 else (L ++ [w]).getD (L.length + 1 - 1) 0) = w
  rw [if_neg (by omega), List.getD_eq_getElem?_getD, Nat.add_sub_cancel, List.getElem?_append_right (Nat.le_refl _), Nat.sub_self]
  rfl
theorem lastOf_le {L : List Nat} (h : ∀ w ∈ L, w < 16) : lastOf L ≤ 16 := by
  unfold lastOf
  by_cases e : L.length = 0
  · rw [if_pos e]; omega
  · rw [if_neg e, List.getD_eq_getElem?_getD, List.getElem?_eq_getElem (show L.length - 1 < L.length by omega)]
    exact Nat.le_of_lt (h _ (List.getElem_mem _))
theorem run_last (π : Pg) (σ : Sg) (l : Nat) (h13 : (gLy σ (gDr π l)).length ≤ 12) : ∀ N, gGo (oRun π l N σ) l = gGo σ l + N ∧ (gLy (oRun π l N σ) (gDr π l)).length = min 12 ((gLy σ (gDr π l)).length + N) ∧ lastOf (gLy (oRun π l N σ) (gDr π l)) = (if min N (12 - (gLy σ (gDr π l)).length) = 0 then lastOf (gLy σ (gDr π l)) else gWd π l (gGo σ l + min N (12 - (gLy σ (gDr π l)).length) - 1)) ∧ ∀ b, b ≠ gDr π l → gLy (oRun π l N σ) b = gLy σ b := by
  intro N
  induction N with
  | zero => exact ⟨rfl, by show _ = min 12 _; rw [Nat.add_zero, Nat.min_eq_right h13]; rfl, by rw [Nat.zero_min, if_pos rfl]; rfl, fun b _ => rfl⟩
  | succ N ih =>
    obtain ⟨i1, i2, i3, i4⟩ := ih
    have e : oRun π l (N + 1) σ = oDrop π l (oRun π l N σ) := itN_end N 0 σ
    rw [e]
    unfold oDrop
    by_cases h : (gLy (oRun π l N σ) (gDr π l)).length < 12
    · rw [if_pos h]
      have hlt : (gLy σ (gDr π l)).length + N < 12 := by rw [i2] at h; omega
      refine ⟨?_, ?_, ?_, ?_⟩
      · show fup (gGo (oRun π l N σ)) l (gGo (oRun π l N σ) l + 1) l = _
        rw [fup_s, i1]; omega
      · show (fup (gLy (oRun π l N σ)) (gDr π l) (gLy (oRun π l N σ) (gDr π l) ++ [gWd π l (gGo (oRun π l N σ) l)]) (gDr π l)).length = _
        rw [fup_s, List.length_append, i2]
        show min 12 _ + 1 = _
        omega
      · show lastOf (fup (gLy (oRun π l N σ)) (gDr π l) (gLy (oRun π l N σ) (gDr π l) ++ [gWd π l (gGo (oRun π l N σ) l)]) (gDr π l)) = _
        rw [fup_s, lastOf_app, i1, Nat.min_eq_left (by omega), if_neg (by omega)]
        congr 1
      · intro b hb
        show fup (gLy (oRun π l N σ)) (gDr π l) _ b = _
        rw [fup_n hb]; exact i4 b hb
    · rw [if_neg h]
      have hge : 12 ≤ (gLy σ (gDr π l)).length + N := by rw [i2] at h; omega
      refine ⟨?_, ?_, ?_, ?_⟩
      · show fup (gGo (oRun π l N σ)) l (gGo (oRun π l N σ) l + 1) l = _
        rw [fup_s, i1]; omega
      · show (gLy (oRun π l N σ) (gDr π l)).length = _
        rw [i2]; omega
      · show lastOf (gLy (oRun π l N σ) (gDr π l)) = _
        rw [i3, show min (N + 1) (12 - (gLy σ (gDr π l)).length) = min N (12 - (gLy σ (gDr π l)).length) by omega]
      · intro b hb; exact i4 b hb
/-- what the book says, and who holds it -/
def RBk (π : Pg) (β : Nat → Int32) (bl mb : Nat → Int32) : Prop := ∀ b, b < gB π → bl b = β b ∧ mb b = β b
def fitB (π : Pg) (σ : Sg) (β : Nat → Int32) (t : Nat) : Bool := (List.range (gB π)).all (fun b => decide (β b = -1) || decide (β b = nI (lastS π σ (t / 9) (t % 9 + 1) b)))
theorem fit_at {π : Pg} {σ : Sg} {β : Nat → Int32} {t : Nat} (h : fitB π σ β t = true) {b : Nat} (hb : b < gB π) (h1 : β b ≠ -1) : β b = nI (lastS π σ (t / 9) (t % 9 + 1) b) := by
  have h2 := List.all_eq_true.mp h b (List.mem_range.mpr hb)
  rw [Bool.or_eq_true, decide_eq_true_eq, decide_eq_true_eq] at h2
  rcases h2 with h2 | h2
  · exact absurd h2 h1
  · exact h2
section KI
variable {π : Pg} {σ : Sg} {s_year s_wet s_lost s_eaten s_tied s_ripeMany : Int32} {s_gone s_place s_heard s_many s_lying s_ripe : Nat → Int32}
variable {p_beds p_letters p_readers : Int32} {p_far p_drain p_length p_words p_home : Nat → Int32}
variable {m_s m_now m_bed m_letter m_reader m_refused : Nat → Int32} {m_beds m_letters m_readers m_thrown x_missing x_misused : Int32} {r_n : Nat} {r_v : Nat → Int32}
variable {β b_last m_book m_lastBy m_leftBy : Nat → Int32}
theorem c_lastAfter (hS : RS π σ (s_year, s_wet, s_lost, s_eaten, s_tied, s_ripeMany, s_gone, s_place, s_heard, s_many, s_lying, s_ripe)) (hP : RPc π (p_beds, p_letters, p_readers, p_far, p_drain, p_length, p_words, p_home)) (ok : OkP π) (os : OkS π σ) {l n b : Nat} (hl : l < gL π) (hn : n < 1000) (hb : b < gB π) : f_X4_lastAfter s_gone s_many s_lying p_drain p_length p_words (nI b) (nI l) (nI n) = some (nI (lastS π σ l n b)) := by
  have h6 := ok.1
  have hL := ok.2.1
  have hdr := (hP.2.2.2.2.1 l hl).1
  have hd9 := (ok.2.2.2.2.1 l hl).1
  have h8 := (ok.2.2.2.2.1 l hl).2.2.1
  have hgo := hS.2.2.2.2.2.2.1 l hl
  have hgl := os.2.2.1 l hl
  have hma := hS.2.2.2.2.2.2.2.2.2.1 b (by omega)
  have h13 := (os.2.2.2.2.1 b).1
  have hlf : gLeft π σ l ≤ 8 := by unfold gLeft; omega
  have e61 : f_X4_lastAfter_61 s_gone s_many s_lying p_drain p_length p_words (nI b) (nI l) (nI n) = some (nI (lastOf (gLy σ b))) := by
    unfold f_X4_lastAfter_61 lastOf
    rw [ixb_nI (by omega) (by omega), if_pos rfl, nI_cl (by omega), hma]
    simp (disch := omega) only [show (0 : Int32) = nI 0 from rfl, nI_leJ, if_true]
    by_cases h : (gLy σ b).length = 0
    · rw [if_pos (by omega), if_pos h]; rfl
    · rw [if_neg (by omega), if_neg h, show (1 : Int32) = nI 1 from rfl, nI_sub (by omega), c_lyingAt hS os (by omega) (by omega), b1_s, if_pos (by omega)]
  unfold f_X4_lastAfter
  rw [ixb_nI (by omega) (by omega), if_pos rfl, nI_cl (by omega), hdr, c_leftOf hS hP ok os hl, b1_s, ixb_nI (by omega) (by omega), if_pos rfl, nI_cl (by omega), hma, show (12 : Int32) = nI 12 from rfl, nI_sub (by omega), imin_nI (by omega) (by omega), imin_nI (by omega) (by omega), e61, hgo]
  simp (disch := omega) only [nI_eqI, show (0 : Int32) = nI 0 from rfl, nI_leJ, if_true]
  have hr := run_last π σ l (os.2.2.2.2.1 _).1 (min n (gLeft π σ l))
  unfold lastS
  by_cases h : gDr π l = b
  · subst h
    rw [if_pos rfl, hr.2.2.1]
    by_cases h2 : min (min n (gLeft π σ l)) (12 - (gLy σ (gDr π l)).length) = 0
    · rw [if_pos (by omega), if_pos h2]
    · rw [if_neg (by omega), if_neg h2]
      have hk : gGo σ l + min (min n (gLeft π σ l)) (12 - (gLy σ (gDr π l)).length) - 1 < gLe π l := by unfold gLeft at h2 ⊢; omega
      rw [nI_add, show (1 : Int32) = nI 1 from rfl, nI_sub (by omega), c_wordAt hP ok hl hk, b1_s]
  · rw [if_neg h, hr.2.2.2 b (fun h9 => h h9.symm)]
theorem c_isRight (hS : RS π σ (s_year, s_wet, s_lost, s_eaten, s_tied, s_ripeMany, s_gone, s_place, s_heard, s_many, s_lying, s_ripe)) (hP : RPc π (p_beds, p_letters, p_readers, p_far, p_drain, p_length, p_words, p_home)) (ok : OkP π) (os : OkS π σ) (hb : RBk π β b_last m_book) {l n : Nat} (hl : l < gL π) (h1 : 1 ≤ n) (hn : n ≤ 9) : f_X0_isRight b_last s_gone s_many s_lying p_beds p_drain p_length p_words (nI l) (nI n) = some (if fitB π σ β (9 * l + n - 1) then 1 else 0) := by
  have h6 := ok.1
  have e1 : (9 * l + n - 1) / 9 = l := by omega
  have e2 : (9 * l + n - 1) % 9 + 1 = n := by omega
  unfold f_X0_isRight fitB
  rw [e1, e2]
  have g : ∀ (d b m : Nat), b + d = gB π → d < m → f_X0_isRight_3 b_last s_gone s_many s_lying p_beds p_drain p_length p_words (nI l) (nI n) m (nI b) = some (if (List.range' b d).all (fun b => decide (β b = -1) || decide (β b = nI (lastS π σ l n b))) then 1 else 0) := by
    intro d
    induction d with
    | zero =>
      intro b m hbd hm
      obtain ⟨m, rfl⟩ : ∃ q, m = q + 1 := ⟨m - 1, by omega⟩
      obtain rfl : b = gB π := by omega
      rw [f_X0_isRight_3, hP.1, if_pos (Int32.le_refl _)]
      rfl
    | succ d ih =>
      intro b m hbd hm
      obtain ⟨m, rfl⟩ : ∃ q, m = q + 1 := ⟨m - 1, by omega⟩
      have hbl := (hb b (by omega)).1
      rw [f_X0_isRight_3, nI_1, ih (b + 1) m (by omega) (by omega), hP.1, ixb_nI (by omega) (by omega), nI_cl (by omega), hbl, c_lastAfter hS hP ok os hl (by omega) (by omega), b1_s]
      simp (disch := omega) only [nI_leJ, if_true]
      rw [if_neg (by omega), List.range'_succ, List.all_cons]
      by_cases h3 : β b = -1
      · rw [if_pos h3, decide_eq_true h3, Bool.true_or, Bool.true_and]
      · rw [if_neg h3, decide_eq_false h3, Bool.false_or]
        by_cases h4 : β b = nI (lastS π σ l n b)
        · rw [if_pos h4, decide_eq_true h4, Bool.true_and]
        · rw [if_neg h4, decide_eq_false h4, Bool.false_and]; rfl
  have h := g (gB π) 0 FU (by omega) (FU_gt (by omega))
  rw [List.range_eq_range']
  exact h
/-- the model's table of what lies last -/
def RLa (π : Pg) (σ : Sg) (lb : Nat → Int32) : Prop := ∀ t b, t < 9 * gL π → b < gB π → lb (6 * t + b) = nI (lastS π σ (t / 9) (t % 9 + 1) b)
theorem m_isFit (ok : OkP π) (hp : m_beds = nI (gB π)) (hb : RBk π β b_last m_book) (hl : RLa π σ m_lastBy) {t : Nat} (ht : t < 9 * gL π) : f_X10_isFit m_beds m_book m_lastBy (nI t) = some (if fitB π σ β t then 1 else 0) := by
  have h6 := ok.1
  have hL := ok.2.1
  unfold f_X10_isFit fitB
  have g0 : ∀ (d b m : Nat), b + d = gB π → d < m → f_X10_isFit_4 m_beds m_book m_lastBy (nI t) m 0 (nI b) = some 0 := by
    intro d
    induction d with
    | zero =>
      intro b m hbd hm
      obtain ⟨m, rfl⟩ : ∃ q, m = q + 1 := ⟨m - 1, by omega⟩
      obtain rfl : b = gB π := by omega
      rw [f_X10_isFit_4, hp, if_pos (Int32.le_refl _)]
      rfl
    | succ d ih =>
      intro b m hbd hm
      obtain ⟨m, rfl⟩ : ∃ q, m = q + 1 := ⟨m - 1, by omega⟩
      rw [f_X10_isFit_4, nI_1, ih (b + 1) m (by omega) (by omega), hp]
      simp (disch := omega) only [nI_leJ, if_true]
      rw [if_neg (by omega)]
  have g : ∀ (d b m : Nat), b + d = gB π → d < m → f_X10_isFit_4 m_beds m_book m_lastBy (nI t) m 1 (nI b) = some (if (List.range' b d).all (fun b => decide (β b = -1) || decide (β b = nI (lastS π σ (t / 9) (t % 9 + 1) b))) then 1 else 0) := by
    intro d
    induction d with
    | zero =>
      intro b m hbd hm
      obtain ⟨m, rfl⟩ : ∃ q, m = q + 1 := ⟨m - 1, by omega⟩
      obtain rfl : b = gB π := by omega
      rw [f_X10_isFit_4, hp, if_pos (Int32.le_refl _)]
      rfl
    | succ d ih =>
      intro b m hbd hm
      obtain ⟨m, rfl⟩ : ∃ q, m = q + 1 := ⟨m - 1, by omega⟩
      have hbl := (hb b (by omega)).2
      have hla := hl t b ht (by omega)
      rw [f_X10_isFit_4, nI_1, ih (b + 1) m (by omega) (by omega), g0 d (b + 1) m (by omega) (by omega), hp, show (6 : Int32) * nI t + nI b = nI (6 * t + b) by rw [show (6 : Int32) = nI 6 from rfl, nI_mul, nI_add], ixb_nI (by omega) (by omega), ixb_nI (by omega) (by omega), nI_cl (by omega), nI_cl (by omega), hbl, hla]
      simp (disch := omega) only [nI_leJ, if_true]
      rw [if_neg (by omega), if_neg (by decide), List.range'_succ, List.all_cons]
      by_cases h3 : β b = -1
      · rw [if_pos h3, decide_eq_true h3, Bool.true_or, Bool.true_and]
      · rw [if_neg h3, decide_eq_false h3, Bool.false_or]
        by_cases h4 : β b = nI (lastS π σ (t / 9) (t % 9 + 1) b)
        · rw [if_pos h4.symm, decide_eq_true h4, Bool.true_and]
        · rw [if_neg (fun h9 => h4 h9.symm), decide_eq_false h4, Bool.false_and]; rfl
  have h := g (gB π) 0 FU (by omega) (FU_gt (by omega))
  rw [List.range_eq_range']
  exact h
end KI
