/-! ===== she ===== -/
/-- what one who does a gets with one who does b -/
def gvI (n1 n2 : Int32) (a b : Nat) : Int32 := if a = 0 then (if b = 0 then -n2 else 0) else if b = 0 then n1 else n1 - n2
def conB (n1 n2 : Int32) (t : Nat) : Bool := decide (¬ gvI n1 n2 (t / 2) (t % 2) < gvI n1 n2 (1 - t / 2) (t % 2)) && decide (¬ gvI n1 n2 (t % 2) (t / 2) < gvI n1 n2 (1 - t % 2) (t / 2))
def stShe (n1 n2 : Int32) (t : Nat) (q : Int32 × Option Nat) : Int32 × Option Nat := if conB n1 n2 t then (q.1 + 1, match q.2 with
  | none => some t
  | some j => some j) else q
def fI : Option Nat → Int32
  | none => -1
  | some t => nI (10 * (t / 2) + t % 2)
def vI (n1 n2 : Int32) : Option Nat → Int32
  | none => 0
  | some t => gvI n1 n2 (t / 2) (t % 2) + gvI n1 n2 (t % 2) (t / 2)
def sheV (n1 n2 n3 : Int32) : Int32 := if n3 = 0 then (itN (stShe n1 n2) 4 0 (0, none)).1 else if n3 = 1 then fI (itN (stShe n1 n2) 4 0 (0, none)).2 else vI n1 n2 (itN (stShe n1 n2) 4 0 (0, none)).2
section KL
variable {m_refused : Nat → Int32} {m_thrown x_missing x_misused : Int32}
theorem c_getting (n1 n2 : Int32) {a b : Nat} (ha : a < 2) (hb : b < 2) : f_X9_getting (nI a) (nI b) n1 n2 = some (gvI n1 n2 a b) := by
  obtain rfl | rfl : a = 0 ∨ a = 1 := by omega
  all_goals (obtain rfl | rfl : b = 0 ∨ b = 1 := by omega)
  all_goals rfl
theorem m_hasBy (n1 n2 : Int32) {a b : Nat} (ha : a < 2) (hb : b < 2) : f_X10_hasBy (nI a) (nI b) n1 n2 = some (gvI n1 n2 a b) := by
  obtain rfl | rfl : a = 0 ∨ a = 1 := by omega
  all_goals (obtain rfl | rfl : b = 0 ∨ b = 1 := by omega)
  all_goals rfl
theorem c_content (n1 n2 : Int32) {a b : Nat} (ha : a < 2) (hb : b < 2) : f_X9_isContent (nI a) (nI b) n1 n2 = some (if gvI n1 n2 a b < gvI n1 n2 (1 - a) b then 0 else 1) := by
  unfold f_X9_isContent
  rw [c_getting n1 n2 ha hb, b1_s, show (1 : Int32) - nI a = nI (1 - a) from by rw [show (1 : Int32) = nI 1 from rfl, nI_sub (by omega)], c_getting n1 n2 (by omega) hb, b1_s]
  by_cases h : gvI n1 n2 a b < gvI n1 n2 (1 - a) b
  · rw [if_pos h, if_pos h]
  · rw [if_neg h, if_neg h]
theorem fI_ne {t : Nat} (h : t < 4) : ¬ fI (some t) = -1 := by
  show ¬ nI (10 * (t / 2) + t % 2) = -1
  rw [nI_neM (by omega)]; exact id
/-- one pair, in the class -/
theorem c_she44 {n1 n2 n3 : Int32} {k35 : Int32 → Int32 → Int32 → Int32 → Int32 → Option (Nat × Int32 × Int32)} {m a b : Nat} (ha : a < 2) (hb : b < 2) (q : Int32 × Option Nat) (hq : ∀ j, q.2 = some j → j < 4) : f_X9_she_44 n1 n2 n3 k35 (m + 1) q.1 (fI q.2) (vI n1 n2 q.2) (nI a) (nI b) x_misused = f_X9_she_44 n1 n2 n3 k35 m (stShe n1 n2 (2 * a + b) q).1 (fI (stShe n1 n2 (2 * a + b) q).2) (vI n1 n2 (stShe n1 n2 (2 * a + b) q).2) (nI a) (nI (b + 1)) x_misused := by
  rw [f_X9_she_44, if_neg (show ¬ (1 : Int32) < nI b from fun h => by rw [show (1 : Int32) = nI 1 from rfl, nI_ltI (by omega) (by omega)] at h; omega), c_content n1 n2 ha hb, b1_s, c_content n1 n2 hb ha, b1_s, c_getting n1 n2 ha hb, b1_s, c_getting n1 n2 hb ha, b1_s, nI_1]
  unfold stShe conB
  rw [show (2 * a + b) / 2 = a by omega, show (2 * a + b) % 2 = b by omega]
  by_cases h1 : gvI n1 n2 a b < gvI n1 n2 (1 - a) b
  · rw [if_pos h1, if_pos rfl, decide_eq_false (fun h => h h1), Bool.false_and, if_neg (by decide)]
  · rw [if_neg h1, if_neg (show ¬ (1 : Int32) = 0 by decide), decide_eq_true h1, Bool.true_and]
    by_cases h2 : gvI n1 n2 b a < gvI n1 n2 (1 - b) a
    · rw [if_pos h2, if_pos rfl, decide_eq_false (fun h => h h2), if_neg (by decide)]
    · rw [if_neg h2, if_neg (show ¬ (1 : Int32) = 0 by decide), decide_eq_true h2, if_pos rfl]
      obtain ⟨c, o⟩ := q
      cases o with
      | none =>
        rw [if_pos (show fI none = -1 from rfl)]
        show f_X9_she_44 n1 n2 n3 k35 m (c + 1) (10 * nI a + nI b) (gvI n1 n2 a b + gvI n1 n2 b a) (nI a) (nI (b + 1)) x_misused = f_X9_she_44 n1 n2 n3 k35 m (c + 1) (nI (10 * ((2 * a + b) / 2) + (2 * a + b) % 2)) (gvI n1 n2 ((2 * a + b) / 2) ((2 * a + b) % 2) + gvI n1 n2 ((2 * a + b) % 2) ((2 * a + b) / 2)) (nI a) (nI (b + 1)) x_misused
        rw [show (2 * a + b) / 2 = a by omega, show (2 * a + b) % 2 = b by omega, show (10 : Int32) = nI 10 from rfl, nI_mul, nI_add]
      | some j => rw [if_neg (fI_ne (hq j rfl))]
theorem stShe_ok {n1 n2 : Int32} {t : Nat} (ht : t < 4) {q : Int32 × Option Nat} (hq : ∀ j, q.2 = some j → j < 4) : ∀ j, (stShe n1 n2 t q).2 = some j → j < 4 := by
  intro j
  unfold stShe
  by_cases h : conB n1 n2 t = true
  · rw [if_pos h]
    obtain ⟨c, o⟩ := q
    cases o with
    | none => intro e; cases e; exact ht
    | some i => intro e; cases e; exact hq _ rfl
  · rw [if_neg h]; exact hq j
theorem c_she (n1 n2 n3 : Int32) : f_X9_she_35 n1 n2 n3 FU 0 (-1) 0 0 x_misused = some (0, sheV n1 n2 n3, x_misused) := by
  obtain ⟨m, hm⟩ : ∃ m, FU = m + 5 := ⟨FU - 5, by have := FU_big; omega⟩
  have s0 : ∀ j, (((0 : Int32), (none : Option Nat))).2 = some j → j < 4 := fun j h => by cases h
  have s1 := stShe_ok (n1 := n1) (n2 := n2) (t := 0) (by decide) s0
  have s2 := stShe_ok (n1 := n1) (n2 := n2) (t := 1) (by decide) s1
  have s3 := stShe_ok (n1 := n1) (n2 := n2) (t := 2) (by decide) s2
  have go : ∀ (k35 : Int32 → Int32 → Int32 → Int32 → Int32 → Option (Nat × Int32 × Int32)) (a : Nat) (q : Int32 × Option Nat), a < 2 → (∀ j, q.2 = some j → j < 4) → f_X9_she_44 n1 n2 n3 k35 FU q.1 (fI q.2) (vI n1 n2 q.2) (nI a) 0 x_misused = k35 (stShe n1 n2 (2 * a + 1) (stShe n1 n2 (2 * a + 0) q)).1 (fI (stShe n1 n2 (2 * a + 1) (stShe n1 n2 (2 * a + 0) q)).2) (vI n1 n2 (stShe n1 n2 (2 * a + 1) (stShe n1 n2 (2 * a + 0) q)).2) (nI (a + 1)) x_misused := by
    intro k35 a q ha hq
    rw [hm]
    refine (c_she44 (m := m + 4) (b := 0) ha (by decide) q hq).trans ?_
    refine (c_she44 (m := m + 3) (b := 1) ha (by decide) (stShe n1 n2 (2 * a + 0) q) (stShe_ok (by omega) hq)).trans ?_
    rw [f_X9_she_44, if_pos (by decide), nI_1]
  have e1 : f_X9_she_35 n1 n2 n3 FU 0 (-1) 0 0 x_misused = f_X9_she_44 n1 n2 n3 (f_X9_she_35 n1 n2 n3 (m + 4)) FU 0 (-1) 0 0 0 x_misused := by
    conv => lhs; rw [hm]
    rw [f_X9_she_35, if_neg (by decide)]
  refine e1.trans ((go (f_X9_she_35 n1 n2 n3 (m + 4)) 0 (0, none) (by decide) s0).trans ?_)
  rw [f_X9_she_35, if_neg (by decide)]
  refine (go (f_X9_she_35 n1 n2 n3 (m + 3)) 1 _ (by decide) s2).trans ?_
  rw [f_X9_she_35, if_pos (by decide)]
  unfold sheV
  show _ = some (0, if n3 = 0 then (stShe n1 n2 3 (stShe n1 n2 2 (stShe n1 n2 1 (stShe n1 n2 0 (0, none))))).1 else if n3 = 1 then fI (stShe n1 n2 3 (stShe n1 n2 2 (stShe n1 n2 1 (stShe n1 n2 0 (0, none))))).2 else vI n1 n2 (stShe n1 n2 3 (stShe n1 n2 2 (stShe n1 n2 1 (stShe n1 n2 0 (0, none))))).2, x_misused)
  by_cases h0 : n3 = 0
  · rw [if_pos h0, if_pos h0]
  · rw [if_neg h0, if_neg h0]
    by_cases h1 : n3 = 1
    · rw [if_pos h1, if_pos h1]
    · rw [if_neg h1, if_neg h1]
theorem m_she (n1 n2 n3 : Int32) : f_X10_she_59 n1 n2 n3 FU 0 (-1) 0 m_thrown m_refused = some (sheV n1 n2 n3, m_thrown, m_refused) := by
  have e := loopQ (A := Int32 × Option Nat) (C := Int32 × Option Nat) (F := fun m q x => f_X10_she_59 n1 n2 n3 m q.1 (fI q.2) x m_thrown m_refused) (B := 4) (step := stShe n1 n2) (fin := fun q => some (if n3 = 0 then q.1 else if n3 = 1 then fI q.2 else vI n1 n2 q.2, m_thrown, m_refused)) (Q := fun _ a q => q = a ∧ ∀ j, q.2 = some j → j < 4) (fun m a q hq => by
      show f_X10_she_59 n1 n2 n3 (m + 1) q.1 (fI q.2) (nI 4) m_thrown m_refused = _
      rw [f_X10_she_59, if_pos (by decide)]
      by_cases h0 : n3 = 0
      · rw [if_pos h0, if_pos h0]
      · rw [if_neg h0, if_neg h0]
        by_cases h1 : n3 = 1
        · rw [if_pos h1, if_pos h1]
        · rw [if_neg h1, if_neg h1]
          obtain ⟨c, o⟩ := q
          cases o with
          | none => rw [if_pos (show fI none = -1 from rfl)]; rfl
          | some t =>
            have ht := hq.2 t rfl
            rw [if_neg (fI_ne ht)]
            have e1 : fI (some t) / 10 = nI (t / 2) := by
              show nI (10 * (t / 2) + t % 2) / nI 10 = _
              rw [nI_div (by omega) (by omega)]
              congr 1
              omega
            have e2 : fI (some t) - nI (t / 2) * 10 = nI (t % 2) := by
              show nI (10 * (t / 2) + t % 2) - nI (t / 2) * nI 10 = _
              rw [nI_mul, nI_sub (by omega)]
              congr 1
              omega
            rw [e1, e2, m_hasBy n1 n2 (by omega) (by omega), b1_s, m_hasBy n1 n2 (by omega) (by omega), b1_s]
            rfl) (fun m a q t ht hq => by
      obtain ⟨rfl, hj⟩ := hq
      refine ⟨stShe n1 n2 t q, ?_, rfl, stShe_ok ht hj⟩
      show f_X10_she_59 n1 n2 n3 (m + 1) q.1 (fI q.2) (nI t) m_thrown m_refused = f_X10_she_59 n1 n2 n3 m (stShe n1 n2 t q).1 (fI (stShe n1 n2 t q).2) (nI (t + 1)) m_thrown m_refused
      rw [f_X10_she_59, if_neg (by rw [show (4 : Int32) = nI 4 from rfl, nI_leI (by omega) (by omega)]; omega), show (2 : Int32) = nI 2 from rfl, nI_div (by omega) (by omega), nI_mul, nI_sub (by omega), show t - t / 2 * 2 = t % 2 by omega, show (1 : Int32) - nI (t / 2) = nI (1 - t / 2) by rw [show (1 : Int32) = nI 1 from rfl, nI_sub (by omega)], show (1 : Int32) - nI (t % 2) = nI (1 - t % 2) by rw [show (1 : Int32) = nI 1 from rfl, nI_sub (by omega)], m_hasBy n1 n2 (by omega) (by omega), b1_s, m_hasBy n1 n2 (by omega) (by omega), b1_s, m_hasBy n1 n2 (by omega) (by omega), b1_s, m_hasBy n1 n2 (by omega) (by omega), b1_s, nI_1]
      unfold stShe conB
      by_cases h1 : gvI n1 n2 (t / 2) (t % 2) < gvI n1 n2 (1 - t / 2) (t % 2)
      · rw [if_pos h1, decide_eq_false (fun h => h h1), Bool.false_and, if_neg (by decide)]
      · rw [if_neg h1, decide_eq_true h1, Bool.true_and]
        by_cases h2 : gvI n1 n2 (t % 2) (t / 2) < gvI n1 n2 (1 - t % 2) (t / 2)
        · rw [if_neg (Int32.not_le.mpr h2), decide_eq_false (fun h => h h2), if_neg (by decide)]
        · rw [if_pos (Int32.not_lt.mp h2), decide_eq_true h2, if_pos rfl]
          obtain ⟨c, o⟩ := q
          cases o with
          | none =>
            rw [if_pos (show fI none = -1 from rfl), show (10 : Int32) = nI 10 from rfl, nI_mul, nI_add]
            rfl
          | some j => rw [if_neg (fI_ne (hj j rfl))]) 4 0 FU (0, none) (0, none) rfl (FU_gt (by omega)) ⟨rfl, fun j h => by cases h⟩
  obtain ⟨c', e1, q1, _⟩ := e
  refine Eq.trans e1 ?_
  rw [q1]
  rfl
theorem k_she (hc : RC x_missing x_misused m_refused) (n1 n2 n3 : Int32) :
    ∃ ex r mu rf, f_X9_she x_misused n1 n2 n3 = some (ex, r, mu) ∧ f_X10_she m_thrown m_refused n1 n2 n3 = some (r, if ex = 0 then 0 else 1, rf) ∧ (ex = 0 ∨ ex = 2) ∧ RC x_missing mu rf := by
  unfold f_X9_she f_X10_she
  rw [c_range, m_within]
  by_cases h1 : 0 ≤ n1 ∧ n1 ≤ 99
  case neg =>
    refine ⟨2, 0, x_misused + 1, upd m_refused 1 (m_refused 1 + 1), ?_, ?_, Or.inr rfl, rc_mu hc⟩
    · rw [if_neg h1]; rfl
    · rw [if_neg h1]; rfl
  rw [if_pos h1, if_pos h1, b2_s, if_pos rfl, c_range, b1_s, if_neg (show ¬ (1 : Int32) = 0 by decide), m_within]
  by_cases h2 : 0 ≤ n2 ∧ n2 ≤ 99
  case neg =>
    refine ⟨2, 0, x_misused + 1, upd m_refused 1 (m_refused 1 + 1), ?_, ?_, Or.inr rfl, rc_mu hc⟩
    · rw [if_neg h2]; rfl
    · rw [if_neg h2]; rfl
  rw [if_pos h2, if_pos h2, b2_s, if_pos rfl, c_range, b1_s, if_neg (show ¬ (1 : Int32) = 0 by decide), m_within]
  by_cases h3 : 0 ≤ n3 ∧ n3 ≤ 2
  case neg =>
    refine ⟨2, 0, x_misused + 1, upd m_refused 1 (m_refused 1 + 1), ?_, ?_, Or.inr rfl, rc_mu hc⟩
    · rw [if_neg h3]; rfl
    · rw [if_neg h3]; rfl
  refine ⟨0, sheV n1 n2 n3, x_misused, m_refused, ?_, ?_, Or.inl rfl, hc⟩
  · rw [if_pos h3, b2_s, if_pos rfl, c_she]
  · rw [if_pos h3, b1_s, if_neg (by decide)]
    unfold f_X10_she_40
    rw [m_may1, b3_s, if_neg (by decide), m_she]
    rfl
end KL
