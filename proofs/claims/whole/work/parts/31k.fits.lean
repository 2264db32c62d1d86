/-! ===== fits, look ===== -/
theorem lastS_le {π : Pg} {σ : Sg} (ok : OkP π) (os : OkS π σ) {l n b : Nat} (hl : l < gL π) : lastS π σ l n b ≤ 16 := by
  have hr := run_last π σ l (os.2.2.2.2.1 _).1 (min n (gLeft π σ l))
  unfold lastS
  by_cases h : b = gDr π l
  · subst h
    rw [hr.2.2.1]
    by_cases h2 : min (min n (gLeft π σ l)) (12 - (gLy σ (gDr π l)).length) = 0
    · rw [if_pos h2]; exact lastOf_le (os.2.2.2.2.1 _).2.2
    · rw [if_neg h2]
      have := (ok.2.2.2.2.1 l hl).2.2.2 (gGo σ l + min (min n (gLeft π σ l)) (12 - (gLy σ (gDr π l)).length) - 1) (by unfold gLeft at h2 ⊢; omega)
      omega
  · rw [hr.2.2.2 b h]; exact lastOf_le (os.2.2.2.2.1 _).2.2
theorem loopG {A R : Type} {F : Nat → A → Int32 → Option R} {lo B : Nat} {step : Nat → A → A} {fin : A → Option R} (h0 : ∀ n a, F (n + 1) a (nI B) = fin a) (h1 : ∀ n a k, lo ≤ k → k < B → F (n + 1) a (nI k) = F n (step k a) (nI (k + 1))) : ∀ (d k n : Nat) (a : A), lo ≤ k → k + d = B → d < n → F n a (nI k) = fin (itN step d k a) := by
  intro d
  induction d with
  | zero =>
    intro k n a _ hk hn
    obtain ⟨m, rfl⟩ : ∃ m, n = m + 1 := ⟨n - 1, by omega⟩
    rw [show k = B by omega]
    exact h0 m a
  | succ d ih =>
    intro k n a hl hk hn
    obtain ⟨m, rfl⟩ : ∃ m, n = m + 1 := ⟨n - 1, by omega⟩
    rw [h1 m a k hl (by omega), ih (k + 1) m _ (by omega) (by omega) (by omega)]
    rfl
def stFit (π : Pg) (σ : Sg) (β : Nat → Int32) (t : Nat) (a : Int32 × Int32) : Int32 × Int32 := if fitB π σ β t then (a.1 + 1, if a.2 = -1 then nI (10 * (t / 9) + t % 9 + 1) else a.2) else a
def fitsV (π : Pg) (σ : Sg) (β : Nat → Int32) (n1 : Int32) : Int32 := if n1 = 0 then (itN (stFit π σ β) (9 * gL π) 0 (0, -1)).1 else (itN (stFit π σ β) (9 * gL π) 0 (0, -1)).2
def mxI (a b : Int32) : Int32 := if b ≤ a then a else b
theorem imax_mx (a b : Int32) : imax a b = mxI a b := by
  unfold imax mxI
  by_cases h : b ≤ a
  · rw [if_pos h, if_neg (Int32.not_lt.mpr h)]
  · rw [if_neg h, if_pos (Int32.not_le.mp h)]
def stMost (π : Pg) (σ : Sg) (β : Nat → Int32) (b t : Nat) (a : Int32 × (Nat → Int32)) : Int32 × (Nat → Int32) := if fitB π σ β t then (mxI a.1 (a.2 (lastS π σ (t / 9) (t % 9 + 1) b) + 1), upd a.2 (lastS π σ (t / 9) (t % 9 + 1) b) (a.2 (lastS π σ (t / 9) (t % 9 + 1) b) + 1)) else a
def mostV (π : Pg) (σ : Sg) (β : Nat → Int32) (b : Nat) : Int32 := (itN (stMost π σ β b) (9 * gL π) 0 (0, fun _ => 0)).1
def stLook (π : Pg) (σ : Sg) (β : Nat → Int32) (b : Nat) (a : Int32 × Int32) : Int32 × Int32 := if β b = -1 then (if a.1 = -1 then (nI b, mostV π σ β b) else if a.2 ≤ mostV π σ β b then a else (nI b, mostV π σ β b)) else a
def lookV (π : Pg) (σ : Sg) (β : Nat → Int32) (n1 : Int32) : Int32 := if n1 = 0 then (itN (stLook π σ β) (gB π) 0 (-1, -1)).1 else (itN (stLook π σ β) (gB π) 0 (-1, -1)).2
def eq17 (a c : Int32 × (Nat → Int32)) : Prop := c.1 = a.1 ∧ ∀ i, i < 17 → c.2 i = a.2 i
section KJ
variable {π : Pg} {σ : Sg} {s_year s_wet s_lost s_eaten s_tied s_ripeMany : Int32} {s_gone s_place s_heard s_many s_lying s_ripe : Nat → Int32}
variable {p_beds p_letters p_readers : Int32} {p_far p_drain p_length p_words p_home : Nat → Int32}
variable {m_s m_now m_bed m_letter m_reader m_refused : Nat → Int32} {m_beds m_letters m_readers m_thrown x_missing x_misused : Int32} {r_n : Nat} {r_v : Nat → Int32}
variable {β b_last m_book m_lastBy m_leftBy : Nat → Int32}
theorem m_ll38 {k2 : Int32 → (Nat → Int32) → (Nat → Int32) → Option ((Nat → Int32) × (Nat → Int32))} {k12 : Int32 → Int32 → (Nat → Int32) → (Nat → Int32) → Option ((Nat → Int32) × (Nat → Int32))} (hp : m_beds = nI (gB π)) (ok : OkP π) {l n : Nat} (hl : l < gL π) (h1 : 1 ≤ n) (h9 : n ≤ 9) {τ : Sg} (ot : OkS π τ) (hT : RM π τ m_s) (hτ : τ = oRun π l (min n (gLeft π σ l)) σ) (hq : ∀ t b, t < 9 * l + n - 1 → b < gB π → m_lastBy (6 * t + b) = nI (lastS π σ (t / 9) (t % 9 + 1) b)) :
    ∃ lb, f_X10_laysLasts_38 m_letter m_beds m_letters m_now k2 k12 FU (nI l) (nI n) 0 m_s m_lastBy = k12 (nI l) (nI (n + 1)) m_s lb ∧ ∀ t b, t < 9 * l + (n + 1) - 1 → b < gB π → lb (6 * t + b) = nI (lastS π σ (t / 9) (t % 9 + 1) b) := by
  have h6 := ok.1
  have hL := ok.2.1
  obtain ⟨lb, e, q⟩ := loopR (A := Unit) (C := Nat → Int32) (F := fun m q x => f_X10_laysLasts_38 m_letter m_beds m_letters m_now k2 k12 m (nI l) (nI n) x m_s q) (B := gB π) (step := fun _ _ => ()) (fin := fun q => k12 (nI l) (nI (n + 1)) m_s q) (Q := fun b' _ q => ∀ t b, b < gB π → (t < 9 * l + n - 1 ∨ (t = 9 * l + n - 1 ∧ b < b')) → q (6 * t + b) = nI (lastS π σ (t / 9) (t % 9 + 1) b)) (fun m q => by
      show f_X10_laysLasts_38 m_letter m_beds m_letters m_now k2 k12 (m + 1) (nI l) (nI n) (nI (gB π)) m_s q = _
      rw [f_X10_laysLasts_38, hp, if_pos (Int32.le_refl _), nI_1]) (fun m _ q b' hb' hq => by
      have hma := hT.2.2.2.2.2.2.2.2.2.1 b' (by omega)
      have h13 := (ot.2.2.2.2.1 b').1
      refine ⟨upd q (6 * (9 * l + n - 1) + b') (nI (lastS π σ l n b')), ?_, fun t b hb ht => ?_⟩
      · show f_X10_laysLasts_38 m_letter m_beds m_letters m_now k2 k12 (m + 1) (nI l) (nI n) (nI b') m_s q = f_X10_laysLasts_38 m_letter m_beds m_letters m_now k2 k12 m (nI l) (nI n) (nI (b' + 1)) m_s _
        have ei : (6 : Int32) * (9 * nI l + nI n - 1) + nI b' = nI (6 * (9 * l + n - 1) + b') := by
          rw [show (9 : Int32) = nI 9 from rfl, nI_mul, nI_add, show (1 : Int32) = nI 1 from rfl, nI_sub (by omega), show (6 : Int32) = nI 6 from rfl, nI_mul, nI_add]
        rw [f_X10_laysLasts_38, hp, ei, show (84 : Int32) + nI b' = nI (84 + b') from nI_add 84 b', ixb_nI (by omega) (by omega), ixb_nI (by omega) (by omega), nI_cl (by omega), nI_cl (by omega), hma]
        simp (disch := omega) only [nI_leJ, if_true]
        rw [if_neg (by omega), nI_1]
        have eL : lastS π σ l n b' = lastOf (gLy τ b') := by unfold lastS; rw [hτ]
        rw [eL]
        unfold lastOf
        by_cases h : (gLy τ b').length = 0
        · rw [if_pos h, h, if_pos (show nI 0 = 0 from rfl)]
          rfl
        · have hly := hT.2.2.2.2.2.2.2.2.2.2.1 b' ((gLy τ b').length - 1) (by omega) (by omega)
          rw [if_neg h, if_neg (nI_ne0 (by omega) (by omega)), show ((12 : Int32) + 12 * nI b' + nI (gLy τ b').length) - 1 = nI (12 + 12 * b' + ((gLy τ b').length - 1)) by
            rw [show (12 : Int32) = nI 12 from rfl, nI_mul, nI_add, nI_add, show (1 : Int32) = nI 1 from rfl, nI_sub (by omega)]
            congr 1
            omega, ixb_nI (by omega) (by omega), if_pos rfl, nI_cl (by omega), hly]
      · by_cases e : t = 9 * l + n - 1 ∧ b = b'
        · obtain ⟨rfl, rfl⟩ := e
          rw [upd_s, show (9 * l + n - 1) / 9 = l by omega, show (9 * l + n - 1) % 9 + 1 = n by omega]
        · rw [upd_n (by omega)]
          exact hq t b hb (by omega)) (gB π) 0 FU () m_lastBy (by omega) (FU_gt (by omega)) (fun t b hb ht => hq t b (by omega) hb)
  exact ⟨lb, e, fun t b ht hb => q t b hb (by omega)⟩
theorem m_laysLasts (hM : RM π σ m_now) (hQ : RPm π m_beds m_letters m_readers m_bed m_letter m_reader) (ok : OkP π) (os : OkS π σ) : ∃ s2 lb, f_X10_laysLasts m_letter m_beds m_letters m_now m_s m_lastBy = some (s2, lb) ∧ RLa π σ lb := by
  have h6 := ok.1
  have hL := ok.2.1
  unfold f_X10_laysLasts
  obtain ⟨⟨s2, lb⟩, e, q⟩ := loopR (A := Unit) (C := (Nat → Int32) × (Nat → Int32)) (F := fun m q x => f_X10_laysLasts_2 m_letter m_beds m_letters m_now m x q.1 q.2) (B := gL π) (step := fun _ _ => ()) (fin := fun q => some (q.1, q.2)) (Q := fun l _ q => ∀ t b, t < 9 * l → b < gB π → q.2 (6 * t + b) = nI (lastS π σ (t / 9) (t % 9 + 1) b)) (fun m q => by
      show f_X10_laysLasts_2 m_letter m_beds m_letters m_now (m + 1) (nI (gL π)) q.1 q.2 = _
      rw [f_X10_laysLasts_2, hQ.2.1, if_pos (Int32.le_refl _)]) (fun m _ q l hl hq => by
      obtain ⟨ms, lb⟩ := q
      show ∃ c' : (Nat → Int32) × (Nat → Int32), f_X10_laysLasts_2 m_letter m_beds m_letters m_now (m + 1) (nI l) ms lb = f_X10_laysLasts_2 m_letter m_beds m_letters m_now m (nI (l + 1)) c'.1 c'.2 ∧ _
      have e0 : f_X10_laysLasts_2 m_letter m_beds m_letters m_now (m + 1) (nI l) ms lb = f_X10_laysLasts_12 m_letter m_beds m_letters m_now (f_X10_laysLasts_2 m_letter m_beds m_letters m_now m) FU (nI l) 1 ms lb := by
        rw [f_X10_laysLasts_2, if_neg (by rw [hQ.2.1, nI_leI (by omega) (by omega)]; omega)]
      rw [e0]
      generalize f_X10_laysLasts_2 m_letter m_beds m_letters m_now m = k2
      obtain ⟨c', e1, q1⟩ := loopR (A := Unit) (C := (Nat → Int32) × (Nat → Int32)) (F := fun m q x => f_X10_laysLasts_12 m_letter m_beds m_letters m_now k2 m (nI l) x q.1 q.2) (B := 10) (step := fun _ _ => ()) (fin := fun q => k2 (nI (l + 1)) q.1 q.2) (Q := fun n _ q => 1 ≤ n ∧ ∀ t b, t < 9 * l + n - 1 → b < gB π → q.2 (6 * t + b) = nI (lastS π σ (t / 9) (t % 9 + 1) b)) (fun m q => by
          show f_X10_laysLasts_12 m_letter m_beds m_letters m_now k2 (m + 1) (nI l) (nI 10) q.1 q.2 = _
          rw [f_X10_laysLasts_12, if_pos (by decide), nI_1]) (fun m _ q n hn hq => by
          obtain ⟨ms, lb⟩ := q
          obtain ⟨m2, e2, hT⟩ := m_take (m_s := ms) ok os hM
          obtain ⟨m3, e3, hU, o3⟩ := m_runsOut (N := min n (gLeft π σ l)) hT hQ ok os hl (Nat.min_le_right _ _)
          have h8 := (ok.2.2.2.2.1 l hl).2.2.1
          have hlf : gLeft π σ l ≤ 8 := by unfold gLeft; omega
          obtain ⟨lb2, e4, q4⟩ := m_ll38 (m_letter := m_letter) (m_letters := m_letters) (m_now := m_now) (k2 := k2) (k12 := f_X10_laysLasts_12 m_letter m_beds m_letters m_now k2 m) hQ.1 ok hl hq.1 (by omega) o3 hU rfl hq.2
          refine ⟨(m3, lb2), ?_, by omega, q4⟩
          show f_X10_laysLasts_12 m_letter m_beds m_letters m_now k2 (m + 1) (nI l) (nI n) ms lb = f_X10_laysLasts_12 m_letter m_beds m_letters m_now k2 m (nI l) (nI (n + 1)) m3 lb2
          rw [f_X10_laysLasts_12, show (9 : Int32) = nI 9 from rfl, if_neg (by rw [nI_ltI (by omega) (by omega)]; omega), e2, b1_s, m_leftOf hT hQ ok os hl, b1_s, m_held (by omega) (by omega), b1_s, Nat.min_comm, e3, b1_s]
          exact e4) 9 1 FU () (ms, lb) rfl (FU_gt (by omega)) ⟨Nat.le_refl _, fun t b ht hb => hq t b (by omega) hb⟩
      exact ⟨c', e1, fun t b ht hb => q1.2 t b (by omega) hb⟩) (gL π) 0 FU () (m_s, m_lastBy) (by omega) (FU_gt (by omega)) (fun t b ht _ => absurd ht (by omega))
  exact ⟨s2, lb, e, q⟩
theorem c_fits14 {n1 : Int32} (hS : RS π σ (s_year, s_wet, s_lost, s_eaten, s_tied, s_ripeMany, s_gone, s_place, s_heard, s_many, s_lying, s_ripe)) (hP : RPc π (p_beds, p_letters, p_readers, p_far, p_drain, p_length, p_words, p_home)) (ok : OkP π) (os : OkS π σ) (hb : RBk π β b_last m_book) : f_X9_fits_14 s_gone s_many s_lying p_beds p_letters p_drain p_length p_words b_last n1 FU 0 (-1) 0 x_misused = some (0, fitsV π σ β n1, x_misused) := by
  have hL := ok.2.1
  have e := loopF (F := fun m (q : Int32 × Int32) x => f_X9_fits_14 s_gone s_many s_lying p_beds p_letters p_drain p_length p_words b_last n1 m q.1 q.2 x x_misused) (B := gL π) (step := fun l a => itN (fun n a => stFit π σ β (9 * l + n - 1) a) 9 1 a) (fin := fun q => if n1 = 0 then some (0, q.1, x_misused) else some (0, q.2, x_misused)) (fun m q => by
      show f_X9_fits_14 s_gone s_many s_lying p_beds p_letters p_drain p_length p_words b_last n1 (m + 1) q.1 q.2 (nI (gL π)) x_misused = _
      rw [f_X9_fits_14, hP.2.1, if_pos (Int32.le_refl _)]) (fun m q l hl => by
      have e0 : f_X9_fits_14 s_gone s_many s_lying p_beds p_letters p_drain p_length p_words b_last n1 (m + 1) q.1 q.2 (nI l) x_misused = f_X9_fits_29 s_gone s_many s_lying p_beds p_letters p_drain p_length p_words b_last n1 (f_X9_fits_14 s_gone s_many s_lying p_beds p_letters p_drain p_length p_words b_last n1 m) FU q.1 q.2 (nI l) 1 x_misused := by
        rw [f_X9_fits_14, if_neg (by rw [hP.2.1, nI_leI (by omega) (by omega)]; omega)]
      refine e0.trans ?_
      generalize hk : f_X9_fits_14 s_gone s_many s_lying p_beds p_letters p_drain p_length p_words b_last n1 m = kk
      have e1 := loopG (F := fun m (q : Int32 × Int32) x => f_X9_fits_29 s_gone s_many s_lying p_beds p_letters p_drain p_length p_words b_last n1 kk m q.1 q.2 (nI l) x x_misused) (lo := 1) (B := 10) (step := fun n a => stFit π σ β (9 * l + n - 1) a) (fin := fun q => kk q.1 q.2 (nI (l + 1)) x_misused) (fun m q => by
          show f_X9_fits_29 s_gone s_many s_lying p_beds p_letters p_drain p_length p_words b_last n1 kk (m + 1) q.1 q.2 (nI l) (nI 10) x_misused = _
          rw [f_X9_fits_29, if_pos (by decide), nI_1]) (fun m q n h1 hn => by
          show f_X9_fits_29 s_gone s_many s_lying p_beds p_letters p_drain p_length p_words b_last n1 kk (m + 1) q.1 q.2 (nI l) (nI n) x_misused = f_X9_fits_29 s_gone s_many s_lying p_beds p_letters p_drain p_length p_words b_last n1 kk m (stFit π σ β (9 * l + n - 1) q).1 (stFit π σ β (9 * l + n - 1) q).2 (nI l) (nI (n + 1)) x_misused
          rw [f_X9_fits_29, show (9 : Int32) = nI 9 from rfl, if_neg (by rw [nI_ltI (by omega) (by omega)]; omega), c_isRight hS hP ok os hb hl h1 (by omega), b1_s, nI_1]
          unfold stFit
          rw [show (9 * l + n - 1) / 9 = l by omega, show 10 * l + (9 * l + n - 1) % 9 + 1 = 10 * l + n by omega]
          by_cases h2 : fitB π σ β (9 * l + n - 1) = true
          · rw [if_pos h2, if_pos h2, if_neg (by decide)]
            by_cases h3 : q.2 = -1
            · rw [if_pos h3, if_pos h3, show (10 : Int32) * nI l + nI n = nI (10 * l + n) by rw [show (10 : Int32) = nI 10 from rfl, nI_mul, nI_add]]
            · rw [if_neg h3, if_neg h3]
          · rw [if_neg h2, if_neg h2, if_pos rfl]) 9 1 FU q (Nat.le_refl _) rfl (FU_gt (by omega))
      exact e1) (gL π) 0 FU (0, -1) (by omega) (FU_gt (by omega))
  refine Eq.trans e ?_
  show (if n1 = 0 then some (0, (itN (fun l a => itN (fun n a => stFit π σ β (9 * l + n - 1) a) 9 1 a) (gL π) 0 (0, -1)).1, x_misused) else some (0, (itN (fun l a => itN (fun n a => stFit π σ β (9 * l + n - 1) a) 9 1 a) (gL π) 0 (0, -1)).2, x_misused)) = _
  rw [itN_nine]
  unfold fitsV
  by_cases h : n1 = 0
  · rw [if_pos h, if_pos h]
  · rw [if_neg h, if_neg h]
theorem m_fits33 {n1 : Int32} (hQ : RPm π m_beds m_letters m_readers m_bed m_letter m_reader) (ok : OkP π) (hb : RBk π β b_last m_book) (hl : RLa π σ m_lastBy) : f_X10_fits_33 m_letter m_beds m_letters m_now m_book n1 FU 0 (-1) 0 m_thrown m_refused m_s m_lastBy = some (fitsV π σ β n1, m_thrown, m_refused, m_s, m_lastBy) := by
  have hL := ok.2.1
  have e := loopF (F := fun m (q : Int32 × Int32) x => f_X10_fits_33 m_letter m_beds m_letters m_now m_book n1 m q.1 q.2 x m_thrown m_refused m_s m_lastBy) (B := 9 * gL π) (step := stFit π σ β) (fin := fun q => if n1 = 0 then some (q.1, m_thrown, m_refused, m_s, m_lastBy) else some (q.2, m_thrown, m_refused, m_s, m_lastBy)) (fun m q => by
      show f_X10_fits_33 m_letter m_beds m_letters m_now m_book n1 (m + 1) q.1 q.2 (nI (9 * gL π)) m_thrown m_refused m_s m_lastBy = _
      rw [f_X10_fits_33, hQ.2.1, show (9 : Int32) * nI (gL π) = nI (9 * gL π) from nI_mul 9 _, if_pos (Int32.le_refl _)]) (fun m q t ht => by
      show f_X10_fits_33 m_letter m_beds m_letters m_now m_book n1 (m + 1) q.1 q.2 (nI t) m_thrown m_refused m_s m_lastBy = f_X10_fits_33 m_letter m_beds m_letters m_now m_book n1 m (stFit π σ β t q).1 (stFit π σ β t q).2 (nI (t + 1)) m_thrown m_refused m_s m_lastBy
      rw [f_X10_fits_33, if_neg (by rw [hQ.2.1, show (9 : Int32) * nI (gL π) = nI (9 * gL π) from nI_mul 9 _, nI_leI (by omega) (by omega)]; omega), m_isFit ok hQ.1 hb hl ht, b1_s, nI_1]
      unfold stFit
      by_cases h2 : fitB π σ β t = true
      · rw [if_pos h2, if_pos h2, if_neg (by decide)]
        by_cases h3 : q.2 = -1
        · rw [if_pos h3, if_pos h3, show ((10 : Int32) * (nI t / 9) + (nI t - nI t / 9 * 9)) + 1 = nI (10 * (t / 9) + t % 9 + 1) by
            rw [show (9 : Int32) = nI 9 from rfl, nI_div (by omega) (by omega), nI_mul, nI_sub (by omega), show (10 : Int32) = nI 10 from rfl, nI_mul, nI_add, nI_1]
            congr 1
            omega]
        · rw [if_neg h3, if_neg h3]
      · rw [if_neg h2, if_neg h2, if_pos rfl]) (9 * gL π) 0 FU (0, -1) (by omega) (FU_gt (by omega))
  refine Eq.trans e ?_
  unfold fitsV
  by_cases h : n1 = 0
  · rw [if_pos h, if_pos h]
  · rw [if_neg h, if_neg h]
theorem k_fits (hS : RS π σ (s_year, s_wet, s_lost, s_eaten, s_tied, s_ripeMany, s_gone, s_place, s_heard, s_many, s_lying, s_ripe)) (hM : RM π σ m_now) (hP : RPc π (p_beds, p_letters, p_readers, p_far, p_drain, p_length, p_words, p_home)) (hQ : RPm π m_beds m_letters m_readers m_bed m_letter m_reader) (ok : OkP π) (os : OkS π σ) (hb : RBk π β b_last m_book) (hc : RC x_missing x_misused m_refused) (n1 : Int32) :
    ∃ ex r mu rf s2 lb, f_X9_fits x_misused s_gone s_many s_lying p_beds p_letters p_drain p_length p_words b_last n1 = some (ex, r, mu) ∧ f_X10_fits m_thrown m_refused m_letter m_beds m_letters m_now m_s m_book m_lastBy n1 = some (r, if ex = 0 then 0 else 1, rf, s2, lb) ∧ (ex = 0 ∨ ex = 2) ∧ RC x_missing mu rf := by
  unfold f_X9_fits f_X10_fits
  rw [c_range, m_within]
  by_cases h : 0 ≤ n1 ∧ n1 ≤ 1
  · obtain ⟨s2, lb, e2, hl⟩ := m_laysLasts (m_s := m_s) (m_lastBy := m_lastBy) hM hQ ok os
    refine ⟨0, fitsV π σ β n1, x_misused, m_refused, s2, lb, ?_, ?_, Or.inl rfl, hc⟩
    · rw [if_pos h, b2_s, if_pos rfl, c_fits14 hS hP ok os hb]
    · rw [if_pos h, b1_s, m_may1, b3_s, if_neg (by decide), e2, b2_s, m_fits33 hQ ok hb hl]
      rfl
  · refine ⟨2, 0, x_misused + 1, upd m_refused 1 (m_refused 1 + 1), m_s, m_lastBy, ?_, ?_, Or.inr rfl, rc_mu hc⟩
    · rw [if_neg h]; rfl
    · rw [if_neg h]; rfl
end KJ
