/-! ===== what refuses a call: the class's tests, the model's ===== -/
def RC (mi mu : Int32) (rf : Nat → Int32) : Prop := mi = rf 0 ∧ mu = rf 1
def inR (n a b : Int32) : Prop := a ≤ n ∧ n ≤ b
theorem c_range (mu n a b : Int32) : f_X9_needRange mu n a b = if a ≤ n ∧ n ≤ b then some (0, mu) else some (2, mu + 1) := by
  unfold f_X9_needRange f_X9_needRange_10
  by_cases h1 : n < a
  · rw [if_pos h1, if_neg (fun h => absurd h1 (Int32.not_lt.mpr h.1))]
  · rw [if_neg h1]
    by_cases h2 : n ≤ b
    · rw [if_pos h2, if_pos ⟨Int32.not_lt.mp h1, h2⟩]
    · rw [if_neg h2, if_neg (fun h => h2 h.2)]
theorem c_one (mi n b : Int32) : f_X9_needOneOf mi n b = if 0 ≤ n ∧ n < b then some (0, mi) else some (1, mi + 1) := by
  unfold f_X9_needOneOf f_X9_needOneOf_9
  by_cases h1 : n < 0
  · rw [if_pos h1, if_neg (fun h => absurd h1 (Int32.not_lt.mpr h.1))]
  · rw [if_neg h1]
    by_cases h2 : n < b
    · rw [if_pos h2, if_pos ⟨Int32.not_lt.mp h1, h2⟩]
    · rw [if_neg h2, if_neg (fun h => h2 h.2)]
theorem c_place (mu n : Int32) : f_X9_needPlace mu n = if 0 ≤ n then some (0, mu) else some (2, mu + 1) := rfl
theorem m_within (n a b : Int32) : f_X10_within n a b = some (if a ≤ n ∧ n ≤ b then 1 else 0) := by
  unfold f_X10_within
  by_cases h1 : n < a
  · rw [if_pos h1, if_neg (fun h => absurd h1 (Int32.not_lt.mpr h.1))]
  · rw [if_neg h1]
    by_cases h2 : n ≤ b
    · rw [if_neg (Int32.not_lt.mpr h2), if_pos ⟨Int32.not_lt.mp h1, h2⟩]
    · rw [if_pos (Int32.not_le.mp h2), if_neg (fun h => h2 h.2)]
theorem m_may1 (rf : Nat → Int32) (c k : Int32) : f_X10_may 0 rf 1 c k = some (1, 0, rf) := rfl
theorem m_may01 (rf : Nat → Int32) : f_X10_may 0 rf 0 1 1 = some (0, 1, upd rf 1 (rf 1 + 1)) := rfl
theorem m_may02 (rf : Nat → Int32) : f_X10_may 0 rf 0 2 1 = some (0, 2, upd rf 1 (rf 1 + 1)) := rfl
theorem m_may00 (rf : Nat → Int32) : f_X10_may 0 rf 0 1 0 = some (0, 1, upd rf 0 (rf 0 + 1)) := rfl
theorem le_pred {n : Int32} {B : Nat} (hB : B < 1000) : (n ≤ nI B - 1) ↔ n < nI B := by
  rw [Int32.le_iff_toInt_le, Int32.lt_iff_toInt_lt, nI_toInt (by omega)]
  have h : (nI B - 1).toInt = (B : Int) - 1 := by
    cases B with
    | zero => decide
    | succ k => rw [nI_pred, nI_toInt (by omega)]; omega
  rw [h]
  omega
theorem m_isL (rf : Nat → Int32) {B : Nat} (hB : B < 1000) (n : Int32) : f_X10_isLetter 0 rf (nI B) n 1 = if 0 ≤ n ∧ n < nI B then some (1, 0, rf) else some (0, 1, upd rf 0 (rf 0 + 1)) := by
  unfold f_X10_isLetter
  rw [m_within, b1_s]
  by_cases h : 0 ≤ n ∧ n < nI B
  · rw [if_pos h, if_pos ⟨h.1, (le_pred hB).mpr h.2⟩]; rfl
  · rw [if_neg h, if_neg (fun h9 => h ⟨h9.1, (le_pred hB).mp h9.2⟩)]; rfl
theorem m_isB (rf : Nat → Int32) {B : Nat} (hB : B < 1000) (n : Int32) : f_X10_isBed 0 rf (nI B) n 1 = if 0 ≤ n ∧ n < nI B then some (1, 0, rf) else some (0, 1, upd rf 0 (rf 0 + 1)) := m_isL rf hB n
theorem m_isR (rf : Nat → Int32) {B : Nat} (hB : B < 1000) (n : Int32) : f_X10_isReader 0 rf (nI B) n 1 = if 0 ≤ n ∧ n < nI B then some (1, 0, rf) else some (0, 1, upd rf 0 (rf 0 + 1)) := m_isL rf hB n
theorem rc_mu {mi mu : Int32} {rf : Nat → Int32} (h : RC mi mu rf) : RC mi (mu + 1) (upd rf 1 (rf 1 + 1)) := ⟨by rw [upd_n (by decide)]; exact h.1, by rw [upd_s, h.2]⟩
theorem rc_mi {mi mu : Int32} {rf : Nat → Int32} (h : RC mi mu rf) : RC (mi + 1) mu (upd rf 0 (rf 0 + 1)) := ⟨by rw [upd_s, h.1], by rw [upd_n (by decide)]; exact h.2⟩
/-- a number between two that are told is a plain one -/
theorem inN {n : Int32} {B : Nat} (hB : B < 2147483648) (h0 : 0 ≤ n) (h : n ≤ nI B) : ∃ k, k ≤ B ∧ n = nI k := nI_of2 (M := nI B) (n := B) (nI_toInt hB) (Int32.not_lt.mpr h0) h
theorem inL {n : Int32} {B : Nat} (hB : B < 2147483648) (h0 : 0 ≤ n) (h : n < nI B) : ∃ k, k < B ∧ n = nI k := by
  obtain ⟨k, hk, e⟩ := inN hB h0 (Int32.le_of_lt h)
  refine ⟨k, ?_, e⟩
  rw [e] at h
  exact (nI_ltI (by omega) hB).mp h
/-- the row as it is now, taken for asking -/
theorem m_copies {v w : Nat → Int32} {N a b : Nat} (ha : N ≤ a) (hb : N ≤ b) (hN : N < 100000) : ∃ v2, f_X10_copies a v b w (nI N) = some v2 ∧ ∀ i, v2 i = if i < N then v i else w i := by
  unfold f_X10_copies
  obtain ⟨v2, e, q⟩ := loopR (A := Unit) (C := Nat → Int32) (F := fun n c x => f_X10_copies_3 a v b (nI N) n x c) (B := N) (step := fun _ _ => ()) (fin := some) (Q := fun k _ c => ∀ i, c i = if i < k then v i else w i) (fun n c => by
      show f_X10_copies_3 a v b (nI N) (n + 1) (nI N) c = _
      rw [f_X10_copies_3, if_pos (Int32.le_refl _)]) (fun n _ c k hk hq => ⟨upd c k (v k), by
      show f_X10_copies_3 a v b (nI N) (n + 1) (nI k) c = f_X10_copies_3 a v b (nI N) n (nI (k + 1)) _
      rw [f_X10_copies_3]
      simp (disch := omega) only [nI_leJ, ixb_nI, nI_cl, if_true, nI_1]
      rw [if_neg (by omega)], fun i => by
      by_cases e : i = k
      · subst e; rw [upd_s, if_pos (by omega)]
      · rw [upd_n e, hq]
        by_cases h9 : i < k
        · rw [if_pos h9, if_pos (by omega)]
        · rw [if_neg h9, if_neg (by omega)]⟩) N 0 FU () w (by omega) (FU_gt (by omega)) (fun i => by rw [if_neg (by omega)])
  exact ⟨v2, e, q⟩
theorem RM_congr {π : Pg} {σ : Sg} {m m2 : Nat → Int32} (ok : OkP π) (os : OkS π σ) (h : RM π σ m) (e : ∀ i, i < 165 → m2 i = m i) : RM π σ m2 := by
  have hL6 := ok.2.1
  have hR5 := ok.2.2.1
  obtain ⟨r1, r2, r3, r4, r5, r6, r7, r8, r9, r10, r11, r12⟩ := h
  refine ⟨?_, ?_, ?_, ?_, fun l hl => ?_, ?_, fun l hl => ?_, fun s hs => ?_, fun s hs => ?_, fun b hb => ?_, fun b j hb hj => ?_, fun j hj => ?_⟩
  · rw [e _ (by omega)]; exact r1
  · rw [e _ (by omega)]; exact r2
  · rw [e _ (by omega)]; exact r3
  · rw [e _ (by omega)]; exact r4
  · rw [e _ (by omega)]; exact r5 l hl
  · rw [e _ (by omega)]; exact r6
  · rw [e _ (by omega)]; exact r7 l hl
  · rw [e _ (by omega)]; exact r8 s hs
  · rw [e _ (by omega)]; exact r9 s hs
  · rw [e _ (by omega)]; exact r10 b hb
  · have h13 := (os.2.2.2.2.1 b).1
    rw [e _ (by omega)]; exact r11 b j hb hj
  · have h13 := os.2.2.2.2.2.1
    rw [e _ (by omega)]; exact r12 j hj
theorem m_take {π : Pg} {σ : Sg} {m_now m_s : Nat → Int32} (ok : OkP π) (os : OkS π σ) (h : RM π σ m_now) : ∃ m2, f_X10_take m_now m_s = some m2 ∧ RM π σ m2 := by
  obtain ⟨v2, e, q⟩ := m_copies (v := m_now) (w := m_s) (N := 165) (a := 165) (b := 165) (Nat.le_refl _) (Nat.le_refl _) (by decide)
  unfold f_X10_take
  rw [show (165 : Int32) = nI 165 from rfl, e, b1_s]
  exact ⟨v2, rfl, RM_congr ok os h (fun i hi => by rw [q, if_pos hi])⟩
