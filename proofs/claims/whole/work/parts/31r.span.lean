/-! ===== span ===== -/
theorem ite_le {A : Type} {a b : Nat} {x y : A} (ha : a < 2147483648) (hb : b < 2147483648) : (if nI a ≤ nI b then x else y) = if a ≤ b then x else y := by
  by_cases h : a ≤ b
  · rw [if_pos h, if_pos ((nI_leI ha hb).mpr h)]
  · rw [if_neg h, if_neg (fun h9 => h ((nI_leI ha hb).mp h9))]
theorem ite_lt {A : Type} {a b : Nat} {x y : A} (ha : a < 2147483648) (hb : b < 2147483648) : (if nI a < nI b then x else y) = if a < b then x else y := by
  by_cases h : a < b
  · rw [if_pos h, if_pos ((nI_ltI ha hb).mpr h)]
  · rw [if_neg h, if_neg (fun h9 => h ((nI_ltI ha hb).mp h9))]
theorem ite_eq {A : Type} {a b : Nat} {x y : A} (ha : a < 2147483648) (hb : b < 2147483648) : (if nI a = nI b then x else y) = if a = b then x else y := by
  by_cases h : a = b
  · rw [if_pos h, if_pos ((nI_eq ha hb).mpr h)]
  · rw [if_neg h, if_neg (fun h9 => h ((nI_eq ha hb).mp h9))]
theorem ite_le0 {A : Type} {a : Nat} {x y : A} (ha : a < 2147483648) : (if nI a ≤ 0 then x else y) = if a = 0 then x else y := by
  by_cases h : a = 0
  · rw [if_pos h, if_pos (show nI a ≤ 0 from (nI_leI ha (b := 0) (by decide)).mpr (by omega))]
  · rw [if_neg h, if_neg (show ¬ nI a ≤ 0 from fun h9 => h (by have := (nI_leI ha (b := 0) (by decide)).mp h9; omega))]
theorem ite_eq0 {A : Type} {a : Nat} {x y : A} (ha : a < 2147483648) : (if nI a = 0 then x else y) = if a = 0 then x else y := ite_eq (b := 0) ha (by decide)
theorem ite_M {A : Type} {a : Nat} {x y : A} (ha : a < 2147483648) : (if nI a = -1 then x else y) = y := if_neg (fun h => by rw [nI_neM ha] at h; exact h)
abbrev At : Type := Option Nat × Nat × Nat
def leftN (π : Pg) (τ : Sg) : Nat := itN (fun l a => a + gLeft π τ l) (gL π) 0 0
def mnO (o : Option Nat) (v : Nat) : Nat := match o with
  | none => v
  | some w => min w v
def spStep (π : Pg) (b : Nat) (τ : Sg) (a : At) : At := (some (mnO a.1 (leftN π τ)), max a.2.1 (leftN π τ), a.2.2 + (if (gLy τ b).length = 0 then 0 else 1))
def after (π : Pg) (c : List Tk) (q : Int32) (N : Nat) (u : Int32) (σ : Sg) : Int32 × Sg := itN (fun _ p => oSum π c q p) N 0 (u, σ)
def spanS (π : Pg) (c : List Tk) (q : Int32) (N b : Nat) (n1 : Int32) (σ : Sg) (d k : Nat) (a : At) : At := itN (fun k a => spStep π b (after π c q N (n1 + nI k) σ).2 a) d k a
def cI (o : Option Nat) : Int32 := match o with
  | none => 48
  | some v => nI v
def mI (o : Option Nat) : Int32 := match o with
  | none => -1
  | some v => nI v
def outI (x y z n5 : Int32) : Int32 := if n5 = 0 then x else if n5 = 1 then y else z
def OkA (a : At) : Prop := (∀ v, a.1 = some v → v ≤ 48) ∧ a.2.1 ≤ 48
theorem leftN_le {π : Pg} {τ : Sg} (ok : OkP π) : leftN π τ ≤ 48 := by
  have h6 := ok.2.1
  have h : leftN π τ ≤ 8 * gL π := itN_inv (step := fun l a => a + gLeft π τ l) (P := fun l a => a ≤ 8 * l) (B := gL π) (fun l a hl ha => by
    have h8 := (ok.2.2.2.2.1 l hl).2.2.1
    have ha : a ≤ 8 * l := ha
    show a + gLeft π τ l ≤ 8 * (l + 1)
    unfold gLeft
    omega) (gL π) 0 0 (by omega) (Nat.le_refl _)
  omega
theorem sum_nI (f : Nat → Nat) : ∀ (d k a : Nat), itN (fun k x => x + nI (f k)) d k (nI a) = nI (itN (fun k a => a + f k) d k a) := by
  intro d
  induction d with
  | zero => intro k a; rfl
  | succ d ih => intro k a; show itN _ d (k + 1) (nI a + nI (f k)) = nI (itN _ d (k + 1) (a + f k)); rw [nI_add]; exact ih _ _
theorem left_nI (π : Pg) (τ : Sg) : sumI (fun l => nI (gLeft π τ l)) (gL π) = nI (leftN π τ) := sum_nI (gLeft π τ) (gL π) 0 0
theorem okA_step {π : Pg} {τ : Sg} (ok : OkP π) {a : At} (h : OkA a) (b : Nat) : OkA (spStep π b τ a) := by
  have hl := leftN_le (τ := τ) ok
  obtain ⟨o, mx, ct⟩ := a
  refine ⟨fun v hv => ?_, Nat.max_le.mpr ⟨h.2, hl⟩⟩
  cases hv
  cases o with
  | none => exact hl
  | some w => exact Nat.le_trans (Nat.min_le_right _ _) hl
theorem span_some (π : Pg) (c : List Tk) (q : Int32) (N b : Nat) (n1 : Int32) (σ : Sg) (d k : Nat) (a : At) : cI (spanS π c q N b n1 σ (d + 1) k a).1 = mI (spanS π c q N b n1 σ (d + 1) k a).1 := by
  unfold spanS
  rw [itN_end]
  rfl
section KQ
variable {π : Pg} {σ : Sg} {s_year s_wet s_lost s_eaten s_tied s_ripeMany : Int32} {s_gone s_place s_heard s_many s_lying s_ripe : Nat → Int32}
variable {s2_year s2_wet s2_lost s2_eaten s2_tied s2_ripeMany : Int32} {s2_gone s2_place s2_heard s2_many s2_lying s2_ripe : Nat → Int32}
variable {p_beds p_letters p_readers : Int32} {p_far p_drain p_length p_words p_home : Nat → Int32}
variable {m_s m_now m_bed m_letter m_reader m_refused : Nat → Int32} {m_beds m_letters m_readers m_thrown x_missing x_misused u_drawn m_seedNow : Int32}
variable {c : List Tk} {l_code l_values l_stack : Nat → Int32} {l_length : Int32} {m_code m_ofCode m_stack m_facts : Nat → Int32} {m_codes : Int32}
theorem c_span62 {n1 n2 q n4 n5 : Int32} {M N b : Nat} (e2 : n2 = nI M) (hM2 : M ≤ 10) (e4 : n4 = nI N) (hN : N ≤ 48) (hb : b < gB π) (hS : RS π σ (s_year, s_wet, s_lost, s_eaten, s_tied, s_ripeMany, s_gone, s_place, s_heard, s_many, s_lying, s_ripe)) (hP : RPc π (p_beds, p_letters, p_readers, p_far, p_drain, p_length, p_words, p_home)) (ok : OkP π) (os : OkS π σ) (hy : gYr σ ≤ 400) (hR : RLc c l_code l_length) (okl : OkL c) : ∀ (d k m : Nat) (a : At) (y w lo ea ti rm : Int32) (go pl he ma ly ri : Nat → Int32) (u : Int32) (va st : Nat → Int32), k + d = M → d < m → OkA a → ∃ T : ZTt, f_X9_span_62 s_year s_wet s_lost s_eaten s_tied s_ripeMany s_gone s_place s_heard s_many s_lying s_ripe p_beds p_letters p_readers p_far p_drain p_length p_words l_code l_length n1 n2 q n4 n5 (nI b) m (cI a.1) (nI a.2.1) (nI a.2.2) (nI k) x_misused y w lo ea ti rm go pl he ma ly ri u va st = some (0, outI (cI (spanS π c q N b n1 σ d k a).1) (nI (spanS π c q N b n1 σ d k a).2.1) (nI (spanS π c q N b n1 σ d k a).2.2) n5, x_misused, T) := by
  subst e2
  subst e4
  have h6 := ok.1
  intro d
  induction d with
  | zero =>
    intro k m a y w lo ea ti rm go pl he ma ly ri u va st hk hm ha
    obtain ⟨m, rfl⟩ : ∃ j, m = j + 1 := ⟨m - 1, by omega⟩
    obtain rfl : k = M := by omega
    refine ⟨(y, w, lo, ea, ti, rm, go, pl, he, ma, ly, ri, u, va, st), ?_⟩
    rw [f_X9_span_62, if_pos (Int32.le_refl _)]
    unfold outI spanS itN
    by_cases g0 : n5 = 0
    · rw [if_pos g0, if_pos g0]
    · rw [if_neg g0, if_neg g0]
      by_cases g1 : n5 = 1
      · rw [if_pos g1, if_pos g1]
      · rw [if_neg g1, if_neg g1]
  | succ d ih =>
    intro k m a y w lo ea ti rm go pl he ma ly ri u va st hk hm ha
    obtain ⟨m, rfl⟩ : ∃ j, m = j + 1 := ⟨m - 1, by omega⟩
    obtain ⟨go3, pl3, he3, ma3, ly3, ri3, e3, hU⟩ := c_copy (t_year := y) (t_wet := w) (t_lost := lo) (t_eaten := ea) (t_tied := ti) (t_ripeMany := rm) (t_gone := go) (t_place := pl) (t_heard := he) (t_many := ma) (t_lying := ly) (t_ripe := ri) ok os hS
    obtain ⟨y4, w4, lo4, rm4, go4, pl4, he4, ma4, ly4, ri4, va4, st4, e4, q4, o4⟩ := c_pass9 (n1 := n1 + nI k) (q := q) (n3 := nI N) (N := N) rfl hN hP ok hR okl N 0 FU (n1 + nI k, σ) _ _ _ _ _ _ _ _ _ _ va st (by omega) (FU_gt (by omega)) os (by show gYr σ ≤ 400 + 0; omega) hU
    have e4' : f_X6_pass u s_year s_wet s_lost s_tied s_ripeMany go3 pl3 he3 ma3 ly3 ri3 p_beds p_letters p_readers p_far p_drain p_length p_words l_code va st l_length (n1 + nI k) q (nI N) = _ := e4
    have q4 : RS π (after π c q N (n1 + nI k) σ).2 _ := q4
    have o4 : OkS π (after π c q N (n1 + nI k) σ).2 := o4
    have hl := leftN_le (τ := (after π c q N (n1 + nI k) σ).2) ok
    have hma := q4.2.2.2.2.2.2.2.2.2.1 b (by omega)
    have h13 := (o4.2.2.2.2.1 b).1
    have hstep := ih (k + 1) m (spStep π b (after π c q N (n1 + nI k) σ).2 a)
    have ha' := okA_step (τ := (after π c q N (n1 + nI k) σ).2) ok ha b
    rw [f_X9_span_62, if_neg (by rw [nI_leI (by omega) (by omega)]; omega), e3, b12_s, e4', b13_s, c_leftOfAll q4 hP ok o4, b1_s, b1_s, left_nI, ixb_nI (by omega) (by omega), if_pos rfl, nI_cl (by omega), hma, nI_1]
    obtain ⟨o, mx, ct⟩ := a
    have hmx : mx ≤ 48 := ha.2
    have i1 : imin (cI o) (nI (leftN π (after π c q N (n1 + nI k) σ).2)) = cI (some (mnO o (leftN π (after π c q N (n1 + nI k) σ).2))) := by
      cases o with
      | none =>
        show imin (nI 48) (nI _) = nI _
        rw [imin_nI (by omega) (by omega), Nat.min_eq_right hl]
        rfl
      | some v =>
        have hv := ha.1 v rfl
        show imin (nI v) (nI _) = nI _
        rw [imin_nI (by omega) (by omega)]
        rfl
    have i2 : imax (nI mx) (nI (leftN π (after π c q N (n1 + nI k) σ).2)) = nI (max mx (leftN π (after π c q N (n1 + nI k) σ).2)) := imax_nI (by omega) (by omega)
    dsimp only
    rw [i1, i2, show nI ct + 0 = nI ct from Int32.add_zero _, nI_1]
    by_cases hz : (gLy (after π c q N (n1 + nI k) σ).2 b).length = 0
    · rw [if_pos (by rw [hz]; decide)]
      have es : spStep π b (after π c q N (n1 + nI k) σ).2 (o, mx, ct) = (some (mnO o (leftN π (after π c q N (n1 + nI k) σ).2)), max mx (leftN π (after π c q N (n1 + nI k) σ).2), ct) := by unfold spStep; rw [if_pos hz]; rfl
      rw [es] at hstep ha'
      unfold spanS itN
      rw [es]
      exact hstep _ _ _ _ _ _ _ _ _ _ _ _ _ _ _ (by omega) (by omega) ha'
    · rw [if_neg (by rw [show (0 : Int32) = nI 0 from rfl, nI_leI (by omega) (by omega)]; omega)]
      have es : spStep π b (after π c q N (n1 + nI k) σ).2 (o, mx, ct) = (some (mnO o (leftN π (after π c q N (n1 + nI k) σ).2)), max mx (leftN π (after π c q N (n1 + nI k) σ).2), ct + 1) := by unfold spStep; rw [if_neg hz]
      rw [es] at hstep ha'
      unfold spanS itN
      rw [es]
      exact hstep _ _ _ _ _ _ _ _ _ _ _ _ _ _ _ (by omega) (by omega) ha'
theorem c_after (hS : RS π σ (s_year, s_wet, s_lost, s_eaten, s_tied, s_ripeMany, s_gone, s_place, s_heard, s_many, s_lying, s_ripe)) (hP : RPc π (p_beds, p_letters, p_readers, p_far, p_drain, p_length, p_words, p_home)) (ok : OkP π) (os : OkS π σ) (hy : gYr σ ≤ 400) (hR : RLc c l_code l_length) (okl : OkL c) {q : Int32} {N : Nat} (hN : N ≤ 48) (u : Int32) : OkS π (after π c q N u σ).2 := by
  obtain ⟨y4, w4, lo4, rm4, go4, pl4, he4, ma4, ly4, ri4, va4, st4, e4, q4, o4⟩ := c_pass9 (n1 := u) (q := q) (n3 := nI N) (N := N) rfl hN hP ok hR okl N 0 FU (u, σ) _ _ _ _ _ _ _ _ _ _ l_code l_code (by omega) (FU_gt (by omega)) os (by show gYr σ ≤ 400 + 0; omega) hS
  exact o4
theorem m_span136 {n1 n2 n3 n4 n5 : Int32} {b : Nat} {τ : Sg} (hT : RM π τ m_s) (ot : OkS π τ) (hb : b < 6) {k77 : Int32 → Int32 → Int32 → Int32 → Int32 → (Nat → Int32) → (Nat → Int32) → (Nat → Int32) → (Nat → Int32) → Int32 → Option (Int32 × Int32 × (Nat → Int32) × (Nat → Int32) × (Nat → Int32) × (Nat → Int32) × Int32)} {x7 y0 : Int32} {ct k : Nat} : f_X10_span_136 m_bed m_letter m_beds m_letters m_readers m_code m_ofCode m_codes m_now n1 n2 n3 n4 n5 (nI b) k77 x7 (nI ct) (nI k) y0 m_thrown m_refused m_stack m_facts m_s m_seedNow = k77 x7 y0 (nI (ct + (if (gLy τ b).length = 0 then 0 else 1))) (nI (k + 1)) m_thrown m_refused m_stack m_facts m_s m_seedNow := by
  have hma := hT.2.2.2.2.2.2.2.2.2.1 b hb
  have h13 := (ot.2.2.2.2.1 b).1
  unfold f_X10_span_136
  rw [show (84 : Int32) + nI b = nI (84 + b) from nI_add 84 b, ixb_nI (by omega) (by omega), if_pos rfl, nI_cl (by omega), hma, nI_1, nI_1, show nI ct + 0 = nI ct from Int32.add_zero _]
  by_cases hz : (gLy τ b).length = 0
  · rw [if_pos (by rw [hz]; decide), if_pos hz]; rfl
  · rw [if_neg (by rw [show (0 : Int32) = nI 0 from rfl, nI_leI (by omega) (by omega)]; omega), if_neg hz]
theorem m_span77 {n1 n2 q n4 n5 : Int32} {M N b : Nat} (e2 : n2 = nI M) (hM2 : M ≤ 10) (e4 : n4 = nI N) (hN : N ≤ 48) (hb : b < gB π) (hM : RM π σ m_now) (hQ : RPm π m_beds m_letters m_readers m_bed m_letter m_reader) (ok : OkP π) (os : OkS π σ) (hy : gYr σ ≤ 400) (hR2 : RLm c m_code m_ofCode m_codes) (okl : OkL c) (ho : ∀ u, OkS π (after π c q N u σ).2) : ∀ (d k m : Nat) (a : At) (st fa ms : Nat → Int32) (u : Int32), k + d = M → d < m → OkA a → ∃ st2 fa2 ms2 u2, f_X10_span_77 m_bed m_letter m_beds m_letters m_readers m_code m_ofCode m_codes m_now n1 n2 q n4 n5 (nI b) m (mI a.1) (nI a.2.1) (nI a.2.2) (nI k) m_thrown m_refused st fa ms u = some (outI (mI (spanS π c q N b n1 σ d k a).1) (nI (spanS π c q N b n1 σ d k a).2.1) (nI (spanS π c q N b n1 σ d k a).2.2) n5, m_thrown, m_refused, st2, fa2, ms2, u2) := by
  subst e2
  subst e4
  have h6 := ok.1
  intro d
  induction d with
  | zero =>
    intro k m a st fa ms u hk hm ha
    obtain ⟨m, rfl⟩ : ∃ j, m = j + 1 := ⟨m - 1, by omega⟩
    obtain rfl : k = M := by omega
    refine ⟨st, fa, ms, u, ?_⟩
    rw [f_X10_span_77, if_pos (Int32.le_refl _)]
    unfold outI spanS itN
    by_cases g0 : n5 = 0
    · rw [if_pos g0, if_pos g0]
    · rw [if_neg g0, if_neg g0]
      by_cases g1 : n5 = 1
      · rw [if_pos g1, if_pos g1]
      · rw [if_neg g1, if_neg g1]
  | succ d ih =>
    intro k m a st fa ms u hk hm ha
    obtain ⟨m, rfl⟩ : ∃ j, m = j + 1 := ⟨m - 1, by omega⟩
    obtain ⟨m2, e2, hT⟩ := m_take (m_s := ms) ok os hM
    obtain ⟨st5, fa5, ms5, e5, q5⟩ := m_summer12 (n1 := n1 + nI k) (q := q) (n3 := nI N) (N := N) (m_now := m_now) rfl hN hQ ok hR2 okl N 0 FU (n1 + nI k, σ) st fa m2 (by omega) (FU_gt (by omega)) os (by show gYr σ ≤ 400 + 0; omega) hT
    have q5 : RM π (after π c q N (n1 + nI k) σ).2 ms5 := q5
    have e5' : f_X10_summerGoes m_bed m_letter m_beds m_letters m_readers m_code m_ofCode st m_codes fa m_now ms u (n1 + nI k) q (nI N) = some (st5, fa5, ms5, (after π c q N (n1 + nI k) σ).1) := by
      unfold f_X10_summerGoes
      rw [e2, b1_s]
      exact e5
    have o4 := ho (n1 + nI k)
    have hl := leftN_le (τ := (after π c q N (n1 + nI k) σ).2) ok
    have ha' := okA_step (τ := (after π c q N (n1 + nI k) σ).2) ok ha b
    obtain ⟨st9, fa9, ms9, u9, e9⟩ := ih (k + 1) m (spStep π b (after π c q N (n1 + nI k) σ).2 a) st5 fa5 ms5 (after π c q N (n1 + nI k) σ).1 (by omega) (by omega) ha'
    refine ⟨st9, fa9, ms9, u9, ?_⟩
    have es : spanS π c q N b n1 σ (d + 1) k a = spanS π c q N b n1 σ d (k + 1) (spStep π b (after π c q N (n1 + nI k) σ).2 a) := rfl
    rw [es, ← e9, f_X10_span_77, if_neg (by rw [nI_leJ (by omega) (by omega)]; omega), e5', b4_s, m_leftAll q5 hQ ok o4, b1_s, left_nI]
    obtain ⟨o, mx, ct⟩ := a
    have hmx : mx ≤ 48 := ha.2
    have i2 : ∀ y0 : Int32, f_X10_span_120 m_bed m_letter m_beds m_letters m_readers m_code m_ofCode m_codes m_now n1 (nI M) q (nI N) n5 (nI b) (f_X10_span_77 m_bed m_letter m_beds m_letters m_readers m_code m_ofCode m_codes m_now n1 (nI M) q (nI N) n5 (nI b) m) (nI mx) (nI ct) (nI k) (nI (leftN π (after π c q N (n1 + nI k) σ).2)) y0 m_thrown m_refused st5 fa5 ms5 (after π c q N (n1 + nI k) σ).1 = f_X10_span_77 m_bed m_letter m_beds m_letters m_readers m_code m_ofCode m_codes m_now n1 (nI M) q (nI N) n5 (nI b) m y0 (nI (max mx (leftN π (after π c q N (n1 + nI k) σ).2))) (nI (ct + (if (gLy (after π c q N (n1 + nI k) σ).2 b).length = 0 then 0 else 1))) (nI (k + 1)) m_thrown m_refused st5 fa5 ms5 (after π c q N (n1 + nI k) σ).1 := by
      intro y0
      unfold f_X10_span_120
      rw [ite_le (by omega) (by omega)]
      by_cases hx : leftN π (after π c q N (n1 + nI k) σ).2 ≤ mx
      · rw [if_pos hx, m_span136 q5 o4 (by omega), Nat.max_eq_left hx]
      · rw [if_neg hx, m_span136 q5 o4 (by omega), Nat.max_eq_right (by omega)]
    cases o with
    | none =>
      show (if (-1 : Int32) = -1 then _ else _) = _
      rw [if_pos rfl]
      exact i2 _
    | some v =>
      have hv := ha.1 v rfl
      have hv : v ≤ 48 := hv
      show (if nI v = -1 then _ else _) = _
      rw [ite_M (by omega)]
      show (if nI v ≤ nI (leftN π (after π c q N (n1 + nI k) σ).2) then _ else _) = _
      rw [ite_le (by omega) (by omega)]
      by_cases hx : v ≤ leftN π (after π c q N (n1 + nI k) σ).2
      · rw [if_pos hx]
        refine (i2 _).trans ?_
        show f_X10_span_77 m_bed m_letter m_beds m_letters m_readers m_code m_ofCode m_codes m_now n1 (nI M) q (nI N) n5 (nI b) m (nI v) _ _ _ _ _ _ _ _ _ = f_X10_span_77 m_bed m_letter m_beds m_letters m_readers m_code m_ofCode m_codes m_now n1 (nI M) q (nI N) n5 (nI b) m (nI (min v (leftN π (after π c q N (n1 + nI k) σ).2))) _ _ _ _ _ _ _ _ _
        rw [Nat.min_eq_left hx]
        rfl
      · rw [if_neg hx]
        refine (i2 _).trans ?_
        show f_X10_span_77 m_bed m_letter m_beds m_letters m_readers m_code m_ofCode m_codes m_now n1 (nI M) q (nI N) n5 (nI b) m (nI (leftN π (after π c q N (n1 + nI k) σ).2)) _ _ _ _ _ _ _ _ _ = f_X10_span_77 m_bed m_letter m_beds m_letters m_readers m_code m_ofCode m_codes m_now n1 (nI M) q (nI N) n5 (nI b) m (nI (min v (leftN π (after π c q N (n1 + nI k) σ).2))) _ _ _ _ _ _ _ _ _
        rw [Nat.min_eq_right (by omega)]
        rfl
theorem k_span (hS : RS π σ (s_year, s_wet, s_lost, s_eaten, s_tied, s_ripeMany, s_gone, s_place, s_heard, s_many, s_lying, s_ripe)) (hM : RM π σ m_now) (hP : RPc π (p_beds, p_letters, p_readers, p_far, p_drain, p_length, p_words, p_home)) (hQ : RPm π m_beds m_letters m_readers m_bed m_letter m_reader) (ok : OkP π) (os : OkS π σ) (hy : gYr σ ≤ 400) (hR : RLc c l_code l_length) (hR2 : RLm c m_code m_ofCode m_codes) (okl : OkL c) (hc : RC x_missing x_misused m_refused) (n1 n2 n3 n4 n5 n6 : Int32) :
    ∃ ex r mu, ∃ T : ZTt, ∃ rf st2 fa2 s2 u2, f_X9_span x_misused s_year s_wet s_lost s_eaten s_tied s_ripeMany s_gone s_place s_heard s_many s_lying s_ripe s2_year s2_wet s2_lost s2_eaten s2_tied s2_ripeMany s2_gone s2_place s2_heard s2_many s2_lying s2_ripe u_drawn p_beds p_letters p_readers p_far p_drain p_length p_words l_code l_values l_stack l_length n1 n2 n3 n4 n5 n6 = some (ex, r, mu, T) ∧ f_X10_span m_thrown m_refused m_bed m_letter m_beds m_letters m_readers m_code m_ofCode m_stack m_codes m_facts m_now m_s m_seedNow n1 n2 n3 n4 n5 n6 = some (r, if ex = 0 then 0 else 1, rf, st2, fa2, s2, u2) ∧ (ex = 0 ∨ ex = 2) ∧ RC x_missing mu rf := by
  have h6 := ok.1
  unfold f_X9_span f_X10_span
  rw [c_range, m_within]
  by_cases h1 : 1 ≤ n2 ∧ n2 ≤ 10
  case neg =>
    refine ⟨2, 0, x_misused + 1, (s2_year, s2_wet, s2_lost, s2_eaten, s2_tied, s2_ripeMany, s2_gone, s2_place, s2_heard, s2_many, s2_lying, s2_ripe, u_drawn, l_values, l_stack), upd m_refused 1 (m_refused 1 + 1), m_stack, m_facts, m_s, m_seedNow, ?_, ?_, Or.inr rfl, rc_mu hc⟩
    · rw [if_neg h1]; rfl
    · rw [if_neg h1]; rfl
  rw [if_pos h1, if_pos h1, b2_s, if_pos rfl, c_range, b1_s, if_neg (show ¬ (1 : Int32) = 0 by decide), m_isSummer]
  by_cases h2 : 0 ≤ n3 ∧ n3 ≤ 16
  case neg =>
    refine ⟨2, 0, x_misused + 1, (s2_year, s2_wet, s2_lost, s2_eaten, s2_tied, s2_ripeMany, s2_gone, s2_place, s2_heard, s2_many, s2_lying, s2_ripe, u_drawn, l_values, l_stack), upd m_refused 1 (m_refused 1 + 1), m_stack, m_facts, m_s, m_seedNow, ?_, ?_, Or.inr rfl, rc_mu hc⟩
    · rw [if_neg h2]; rfl
    · rw [if_neg (fun h => h2 h.1)]; rfl
  rw [if_pos h2, b2_s, if_pos rfl, c_range]
  by_cases h3 : 1 ≤ n4 ∧ n4 ≤ 48
  case neg =>
    refine ⟨2, 0, x_misused + 1, (s2_year, s2_wet, s2_lost, s2_eaten, s2_tied, s2_ripeMany, s2_gone, s2_place, s2_heard, s2_many, s2_lying, s2_ripe, u_drawn, l_values, l_stack), upd m_refused 1 (m_refused 1 + 1), m_stack, m_facts, m_s, m_seedNow, ?_, ?_, Or.inr rfl, rc_mu hc⟩
    · rw [if_neg h3]; rfl
    · rw [if_neg (fun h => h3 h.2)]; rfl
  rw [if_pos h3, b2_s, if_pos rfl, c_range, if_pos (show (0 ≤ n3 ∧ n3 ≤ 16) ∧ 1 ≤ n4 ∧ n4 ≤ 48 from ⟨h2, h3⟩), b1_s, if_neg (show ¬ (1 : Int32) = 0 by decide), m_within]
  by_cases h4 : 0 ≤ n5 ∧ n5 ≤ 2
  case neg =>
    refine ⟨2, 0, x_misused + 1, (s2_year, s2_wet, s2_lost, s2_eaten, s2_tied, s2_ripeMany, s2_gone, s2_place, s2_heard, s2_many, s2_lying, s2_ripe, u_drawn, l_values, l_stack), upd m_refused 1 (m_refused 1 + 1), m_stack, m_facts, m_s, m_seedNow, ?_, ?_, Or.inr rfl, rc_mu hc⟩
    · rw [if_neg h4]; rfl
    · rw [if_neg h4]; rfl
  rw [if_pos h4, if_pos h4, b2_s, if_pos rfl, c_range, b1_s, if_neg (show ¬ (1 : Int32) = 0 by decide), m_within, hP.1, hQ.1]
  by_cases h5 : 0 ≤ n6 ∧ n6 ≤ nI (gB π) - 1
  case neg =>
    refine ⟨2, 0, x_misused + 1, (s2_year, s2_wet, s2_lost, s2_eaten, s2_tied, s2_ripeMany, s2_gone, s2_place, s2_heard, s2_many, s2_lying, s2_ripe, u_drawn, l_values, l_stack), upd m_refused 1 (m_refused 1 + 1), m_stack, m_facts, m_s, m_seedNow, ?_, ?_, Or.inr rfl, rc_mu hc⟩
    · rw [if_neg h5]; rfl
    · rw [if_neg h5]; rfl
  rw [if_pos h5, if_pos h5, b2_s, if_pos rfl, b1_s, if_neg (show ¬ (1 : Int32) = 0 by decide)]
  obtain ⟨M, hM2, rfl⟩ := inN (B := 10) (by decide) (Int32.le_trans (by decide) h1.1) h1.2
  obtain ⟨N, hN, rfl⟩ := inN (B := 48) (by decide) (Int32.le_trans (by decide) h3.1) h3.2
  obtain ⟨b, hb, rfl⟩ := inL (B := gB π) (by omega) h5.1 ((le_pred (by omega)).mp h5.2)
  have hM1 : 1 ≤ M := (nI_leI (a := 1) (by omega) (by omega)).mp h1.1
  have okA : OkA ((none, 0, 0) : At) := And.intro (fun v (hv : (none : Option Nat) = some v) => (by cases hv)) (Nat.zero_le _)
  obtain ⟨T, eT⟩ := c_span62 (n1 := n1) (q := n3) (n5 := n5) (x_misused := x_misused) rfl hM2 rfl hN hb hS hP ok os hy hR okl M 0 FU (none, 0, 0) s2_year s2_wet s2_lost s2_eaten s2_tied s2_ripeMany s2_gone s2_place s2_heard s2_many s2_lying s2_ripe u_drawn l_values l_stack (by omega) (FU_gt (by omega)) okA
  obtain ⟨st5, fa5, ms5, u5, e5⟩ := m_span77 (n1 := n1) (q := n3) (n5 := n5) (m_thrown := 0) (m_refused := m_refused) rfl hM2 rfl hN hb hM hQ ok os hy hR2 okl (c_after hS hP ok os hy hR okl hN) M 0 FU (none, 0, 0) m_stack m_facts m_s m_seedNow (by omega) (FU_gt (by omega)) okA
  have hsp : cI (spanS π c n3 N b n1 σ M 0 (none, 0, 0)).1 = mI (spanS π c n3 N b n1 σ M 0 (none, 0, 0)).1 := by
    obtain ⟨d, rfl⟩ : ∃ d, M = d + 1 := ⟨M - 1, by omega⟩
    exact span_some _ _ _ _ _ _ _ _ _ _
  rw [hsp, hP.1] at eT
  rw [hQ.1] at e5
  refine ⟨0, _, x_misused, T, m_refused, st5, fa5, ms5, u5, eT, ?_, Or.inl rfl, hc⟩
  unfold f_X10_span_55
  rw [m_may1, b3_s, if_neg (show ¬ (1 : Int32) = 0 by decide)]
  exact e5
end KQ
