/-! ===== span ===== -/
abbrev At : Type := Option Nat × Nat × Nat
def leftN (π : Pg) (τ : Sg) : Nat := itN (fun l a => a + gLeft π τ l) (gL π) 0 0
def mnO (o : Option Nat) (v : Nat) : Nat := match o with
  | none => v
  | some w => min w v
def spStep (π : Pg) (b : Nat) (τ : Sg) (a : At) : At := (some (mnO a.1 (leftN π τ)), max a.2.1 (leftN π τ), a.2.2 + (if (gLy τ b).length = 0 then 0 else 1))
def after (π : Pg) (c : List Tk) (q : Int32) (N : Nat) (u : Int32) (σ : Sg) : Int32 × Sg := itN (fun _ p => oSum π c q p) N 0 (u, σ)
def spanS (π : Pg) (c : List Tk) (q : Int32) (N b : Nat) (n1 : Int32) (σ : Sg) (d k : Nat) (a : At) : At := itN (fun k a => spStep π b (after π c q N (n1 + nI k) σ).2 a) d k a
def cI (o : Option Nat) : Int32 := match o with
  | none => 48
  | some v => nI v
def mI (o : Option Nat) : Int32 := match o with
  | none => -1
  | some v => nI v
def outI (x y z n5 : Int32) : Int32 := if n5 = 0 then x else if n5 = 1 then y else z
def OkA (a : At) : Prop := (∀ v, a.1 = some v → v ≤ 48) ∧ a.2.1 ≤ 48
theorem leftN_le {π : Pg} {τ : Sg} (ok : OkP π) : leftN π τ ≤ 48 := by
  have h6 := ok.2.1
  have h : leftN π τ ≤ 8 * gL π := itN_inv (step := fun l a => a + gLeft π τ l) (P := fun l a => a ≤ 8 * l) (B := gL π) (fun l a hl ha => by
    have h8 := (ok.2.2.2.2.1 l hl).2.2.1
    have ha : a ≤ 8 * l := ha
    show a + gLeft π τ l ≤ 8 * (l + 1)
    unfold gLeft
    omega) (gL π) 0 0 (by omega) (Nat.le_refl _)
  omega
theorem sum_nI (f : Nat → Nat) : ∀ (d k a : Nat), itN (fun k x => x + nI (f k)) d k (nI a) = nI (itN (fun k a => a + f k) d k a) := by
  intro d
  induction d with
  | zero => intro k a; rfl
  | succ d ih => intro k a; show itN _ d (k + 1) (nI a + nI (f k)) = nI (itN _ d (k + 1) (a + f k)); rw [nI_add]; exact ih _ _
theorem left_nI (π : Pg) (τ : Sg) : sumI (fun l => nI (gLeft π τ l)) (gL π) = nI (leftN π τ) := sum_nI (gLeft π τ) (gL π) 0 0
theorem okA_step {π : Pg} {τ : Sg} (ok : OkP π) {a : At} (h : OkA a) (b : Nat) : OkA (spStep π b τ a) := by
  have hl := leftN_le (τ := τ) ok
  obtain ⟨o, mx, ct⟩ := a
  refine ⟨fun v hv => ?_, Nat.max_le.mpr ⟨h.2, hl⟩⟩
  cases hv
  cases o with
  | none => exact hl
  | some w => exact Nat.le_trans (Nat.min_le_right _ _) hl
theorem span_some (π : Pg) (c : List Tk) (q : Int32) (N b : Nat) (n1 : Int32) (σ : Sg) (d k : Nat) (a : At) : cI (spanS π c q N b n1 σ (d + 1) k a).1 = mI (spanS π c q N b n1 σ (d + 1) k a).1 := by
  unfold spanS
  rw [itN_end]
  rfl
section KQ
variable {π : Pg} {σ : Sg} {s_year s_wet s_lost s_eaten s_tied s_ripeMany : Int32} {s_gone s_place s_heard s_many s_lying s_ripe : Nat → Int32}
variable {s2_year s2_wet s2_lost s2_eaten s2_tied s2_ripeMany : Int32} {s2_gone s2_place s2_heard s2_many s2_lying s2_ripe : Nat → Int32}
variable {p_beds p_letters p_readers : Int32} {p_far p_drain p_length p_words p_home : Nat → Int32}
variable {m_s m_now m_bed m_letter m_reader m_refused : Nat → Int32} {m_beds m_letters m_readers m_thrown x_missing x_misused u_drawn m_seedNow : Int32}
variable {c : List Tk} {l_code l_values l_stack : Nat → Int32} {l_length : Int32} {m_code m_ofCode m_stack m_facts : Nat → Int32} {m_codes : Int32}
theorem c_span62 {n1 n2 q n4 n5 : Int32} {M N b : Nat} (e2 : n2 = nI M) (hM2 : M ≤ 10) (e4 : n4 = nI N) (hN : N ≤ 48) (hb : b < gB π) (hS : RS π σ (s_year, s_wet, s_lost, s_eaten, s_tied, s_ripeMany, s_gone, s_place, s_heard, s_many, s_lying, s_ripe)) (hP : RPc π (p_beds, p_letters, p_readers, p_far, p_drain, p_length, p_words, p_home)) (ok : OkP π) (os : OkS π σ) (hy : gYr σ ≤ 400) (hR : RLc c l_code l_length) (okl : OkL c) : ∀ (d k m : Nat) (a : At) (y w lo ea ti rm : Int32) (go pl he ma ly ri : Nat → Int32) (u : Int32) (va st : Nat → Int32), k + d = M → d < m → OkA a → ∃ T : ZTt, f_X9_span_62 s_year s_wet s_lost s_eaten s_tied s_ripeMany s_gone s_place s_heard s_many s_lying s_ripe p_beds p_letters p_readers p_far p_drain p_length p_words l_code l_length n1 n2 q n4 n5 (nI b) m (cI a.1) (nI a.2.1) (nI a.2.2) (nI k) x_misused y w lo ea ti rm go pl he ma ly ri u va st = some (0, outI (cI (spanS π c q N b n1 σ d k a).1) (nI (spanS π c q N b n1 σ d k a).2.1) (nI (spanS π c q N b n1 σ d k a).2.2) n5, x_misused, T) := by
  subst e2
  subst e4
  have h6 := ok.1
  intro d
  induction d with
  | zero =>
    intro k m a y w lo ea ti rm go pl he ma ly ri u va st hk hm ha
    obtain ⟨m, rfl⟩ : ∃ j, m = j + 1 := ⟨m - 1, by omega⟩
    obtain rfl : k = M := by omega
    refine ⟨(y, w, lo, ea, ti, rm, go, pl, he, ma, ly, ri, u, va, st), ?_⟩
    rw [f_X9_span_62, if_pos (Int32.le_refl _)]
    unfold outI spanS itN
    by_cases g0 : n5 = 0
    · rw [if_pos g0, if_pos g0]
    · rw [if_neg g0, if_neg g0]
      by_cases g1 : n5 = 1
      · rw [if_pos g1, if_pos g1]
      · rw [if_neg g1, if_neg g1]
  | succ d ih =>
    intro k m a y w lo ea ti rm go pl he ma ly ri u va st hk hm ha
    obtain ⟨m, rfl⟩ : ∃ j, m = j + 1 := ⟨m - 1, by omega⟩
    obtain ⟨go3, pl3, he3, ma3, ly3, ri3, e3, hU⟩ := c_copy (t_year := y) (t_wet := w) (t_lost := lo) (t_eaten := ea) (t_tied := ti) (t_ripeMany := rm) (t_gone := go) (t_place := pl) (t_heard := he) (t_many := ma) (t_lying := ly) (t_ripe := ri) ok os hS
    obtain ⟨y4, w4, lo4, rm4, go4, pl4, he4, ma4, ly4, ri4, va4, st4, e4, q4, o4⟩ := c_pass9 (n1 := n1 + nI k) (q := q) (n3 := nI N) (N := N) rfl hN hP ok hR okl N 0 FU (n1 + nI k, σ) _ _ _ _ _ _ _ _ _ _ va st (by omega) (FU_gt (by omega)) os (by show gYr σ ≤ 400 + 0; omega) hU
    have e4' : f_X6_pass u s_year s_wet s_lost s_tied s_ripeMany go3 pl3 he3 ma3 ly3 ri3 p_beds p_letters p_readers p_far p_drain p_length p_words l_code va st l_length (n1 + nI k) q (nI N) = _ := e4
    have q4 : RS π (after π c q N (n1 + nI k) σ).2 _ := q4
    have o4 : OkS π (after π c q N (n1 + nI k) σ).2 := o4
    have hl := leftN_le (τ := (after π c q N (n1 + nI k) σ).2) ok
    have hma := q4.2.2.2.2.2.2.2.2.2.1 b (by omega)
    have h13 := (o4.2.2.2.2.1 b).1
    have hstep := ih (k + 1) m (spStep π b (after π c q N (n1 + nI k) σ).2 a)
    have ha' := okA_step (τ := (after π c q N (n1 + nI k) σ).2) ok ha b
    rw [f_X9_span_62, if_neg (by rw [nI_leI (by omega) (by omega)]; omega), e3, b12_s, e4', b13_s, c_leftOfAll q4 hP ok o4, b1_s, b1_s, left_nI, ixb_nI (by omega) (by omega), if_pos rfl, nI_cl (by omega), hma, nI_1]
    obtain ⟨o, mx, ct⟩ := a
    have hmx : mx ≤ 48 := ha.2
    have i1 : imin (cI o) (nI (leftN π (after π c q N (n1 + nI k) σ).2)) = cI (some (mnO o (leftN π (after π c q N (n1 + nI k) σ).2))) := by
      cases o with
      | none =>
        show imin (nI 48) (nI _) = nI _
        rw [imin_nI (by omega) (by omega), Nat.min_eq_right hl]
        rfl
      | some v =>
        have hv := ha.1 v rfl
        show imin (nI v) (nI _) = nI _
        rw [imin_nI (by omega) (by omega)]
        rfl
    have i2 : imax (nI mx) (nI (leftN π (after π c q N (n1 + nI k) σ).2)) = nI (max mx (leftN π (after π c q N (n1 + nI k) σ).2)) := imax_nI (by omega) (by omega)
    dsimp only
    rw [i1, i2, show nI ct + 0 = nI ct from Int32.add_zero _, nI_1]
    by_cases hz : (gLy (after π c q N (n1 + nI k) σ).2 b).length = 0
    · rw [if_pos (by rw [hz]; decide)]
      have es : spStep π b (after π c q N (n1 + nI k) σ).2 (o, mx, ct) = (some (mnO o (leftN π (after π c q N (n1 + nI k) σ).2)), max mx (leftN π (after π c q N (n1 + nI k) σ).2), ct) := by unfold spStep; rw [if_pos hz]; rfl
      rw [es] at hstep ha'
      unfold spanS itN
      rw [es]
      exact hstep _ _ _ _ _ _ _ _ _ _ _ _ _ _ _ (by omega) (by omega) ha'
    · rw [if_neg (by rw [show (0 : Int32) = nI 0 from rfl, nI_leI (by omega) (by omega)]; omega)]
      have es : spStep π b (after π c q N (n1 + nI k) σ).2 (o, mx, ct) = (some (mnO o (leftN π (after π c q N (n1 + nI k) σ).2)), max mx (leftN π (after π c q N (n1 + nI k) σ).2), ct + 1) := by unfold spStep; rw [if_neg hz]
      rw [es] at hstep ha'
      unfold spanS itN
      rw [es]
      exact hstep _ _ _ _ _ _ _ _ _ _ _ _ _ _ _ (by omega) (by omega) ha'
end KQ
