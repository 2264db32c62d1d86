/-! ===== seed, often, she ===== -/
def giveS (π : Pg) (σ : Sg) (n2 : Int32) (x : Nat) : Nat := itN (fun b a => a + (if hasW n2 (nI b) then min x (gLy σ b).length else 0)) (gB π) 0 0
theorem giveS_le (π : Pg) (σ : Sg) (n2 : Int32) {x : Nat} (hx : x ≤ 12) (ok : OkP π) : giveS π σ n2 x ≤ 100 := by
  have hB := ok.1
  have h := itN_inv (step := fun b (a : Nat) => a + (if hasW n2 (nI b) then min x (gLy σ b).length else 0)) (P := fun b a => a ≤ 12 * b) (B := gB π) (fun b a hb ha => by
    show a + (if hasW n2 (nI b) then min x (gLy σ b).length else 0) ≤ 12 * (b + 1)
    have ha : a ≤ 12 * b := ha
    by_cases h : hasW n2 (nI b)
    · rw [if_pos h]; omega
    · rw [if_neg h]; omega) (gB π) 0 0 (by omega) (Nat.le_refl _)
  have h : giveS π σ n2 x ≤ 12 * gB π := h
  omega
def seedS (π : Pg) (σ : Sg) (b : Nat) (n2 : Int32) (N : Nat) : Nat → Nat
  | 0 => 0
  | x + 1 => if N < giveS π σ n2 (x + 1) then seedS π σ b n2 N x else min (x + 1) (gLy σ b).length
def timesI (π : Pg) (σ : Sg) (w : Nat) : Int32 := itN (fun b a => itN (fun k a => a + (if (gLy σ b).getD k 0 = w then 1 else 0)) (gLy σ b).length 0 a) (gB π) 0 0
def oft0 (π : Pg) (σ : Sg) : Option Nat → Int32
  | none => 0
  | some j => timesI π σ j
/-- the word that lies most often, and how often -/
def oftenS (π : Pg) (σ : Sg) : Nat → Nat → Option Nat → Option Nat
  | 0, _, o => o
  | d + 1, w, o => oftenS π σ d (w + 1) (if timesI π σ w ≤ oft0 π σ o then o else some w)
section KG
variable {π : Pg} {σ : Sg} {s_year s_wet s_lost s_eaten s_tied s_ripeMany : Int32} {s_gone s_place s_heard s_many s_lying s_ripe : Nat → Int32}
variable {p_beds p_letters p_readers : Int32} {p_far p_drain p_length p_words p_home : Nat → Int32}
variable {m_s m_now m_bed m_letter m_reader m_refused : Nat → Int32} {m_beds m_letters m_readers m_thrown x_missing x_misused : Int32} {r_n : Nat} {r_v : Nat → Int32}
theorem c_givenBy {n2 : Int32} {x : Nat} (hx : x ≤ 12) (hS : RS π σ (s_year, s_wet, s_lost, s_eaten, s_tied, s_ripeMany, s_gone, s_place, s_heard, s_many, s_lying, s_ripe)) (hp : p_beds = nI (gB π)) (ok : OkP π) (os : OkS π σ) : f_X9_givenBy s_many p_beds (nI x) n2 = some (nI (giveS π σ n2 x)) := by
  have h6 := ok.1
  unfold f_X9_givenBy
  obtain ⟨c', e, q⟩ := loopR (A := Nat) (C := Int32) (F := fun n q y => f_X9_givenBy_5 s_many p_beds (nI x) n2 n q y) (B := gB π) (step := fun b a => a + (if hasW n2 (nI b) then min x (gLy σ b).length else 0)) (fin := some) (Q := fun _ a q => q = nI a) (fun n q => by
      show f_X9_givenBy_5 s_many p_beds (nI x) n2 (n + 1) q (nI (gB π)) = _
      rw [f_X9_givenBy_5, hp, if_pos (Int32.le_refl _)]) (fun n a q b hb hq => by
      have hq : q = nI a := hq
      subst hq
      have hma := hS.2.2.2.2.2.2.2.2.2.1 b (by omega)
      have h13 := (os.2.2.2.2.1 b).1
      refine ⟨nI (a + (if hasW n2 (nI b) then min x (gLy σ b).length else 0)), ?_, rfl⟩
      show f_X9_givenBy_5 s_many p_beds (nI x) n2 (n + 1) (nI a) (nI b) = f_X9_givenBy_5 s_many p_beds (nI x) n2 n _ (nI (b + 1))
      rw [f_X9_givenBy_5, hp]
      simp (disch := omega) only [nI_leJ]
      rw [if_neg (by omega), c_has, b1_s, ixb_nI (by omega) (by omega), if_pos rfl, nI_cl (by omega), hma, imin_nI (by omega) (by omega), nI_1]
      by_cases h : hasW n2 (nI b)
      · rw [if_pos h, if_pos h, if_neg (by decide), nI_add]
      · rw [if_neg h, if_neg h, if_pos rfl, show nI a + 0 = nI a from Int32.add_zero _]
        rfl) (gB π) 0 FU 0 0 (by omega) (FU_gt (by omega)) rfl
  have q : c' = nI (giveS π σ n2 x) := q
  rw [← q]; exact e
theorem m_seedBy {n2 : Int32} {x : Nat} (hx : x ≤ 12) (hS : RM π σ m_now) (hp : m_beds = nI (gB π)) (ok : OkP π) (os : OkS π σ) : f_X10_seedBy m_beds m_now n2 (nI x) = some (nI (giveS π σ n2 x)) := by
  have h6 := ok.1
  unfold f_X10_seedBy
  obtain ⟨c', e, q⟩ := loopR (A := Nat) (C := Int32) (F := fun n q y => f_X10_seedBy_5 m_beds m_now n2 (nI x) n q y) (B := gB π) (step := fun b a => a + (if hasW n2 (nI b) then min x (gLy σ b).length else 0)) (fin := some) (Q := fun _ a q => q = nI a) (fun n q => by
      show f_X10_seedBy_5 m_beds m_now n2 (nI x) (n + 1) q (nI (gB π)) = _
      rw [f_X10_seedBy_5, hp, if_pos (Int32.le_refl _)]) (fun n a q b hb hq => by
      have hq : q = nI a := hq
      subst hq
      have hma := hS.2.2.2.2.2.2.2.2.2.1 b (by omega)
      have h13 := (os.2.2.2.2.1 b).1
      refine ⟨nI (a + (if hasW n2 (nI b) then min x (gLy σ b).length else 0)), ?_, rfl⟩
      show f_X10_seedBy_5 m_beds m_now n2 (nI x) (n + 1) (nI a) (nI b) = f_X10_seedBy_5 m_beds m_now n2 (nI x) n _ (nI (b + 1))
      rw [f_X10_seedBy_5, hp]
      simp (disch := omega) only [nI_leJ]
      rw [if_neg (by omega), show (84 : Int32) + nI b = nI (84 + b) from nI_add 84 b, ixb_nI (by omega) (by omega), if_pos rfl, nI_cl (by omega), hma, m_held (by omega) (by omega), b1_s, nI_1]
      by_cases h : hasW n2 (nI b)
      · have h' : (n2 >>> (nI b &&& 31)) &&& 1 = nI 1 := h
        rw [if_pos h, h', nI_mul, nI_add, Nat.one_mul]
      · have h' : (n2 >>> (nI b &&& 31)) &&& 1 = nI 0 := by
          have h9 : ¬ (n2 >>> (nI b &&& 31)) &&& 1 = 1 := h
          rw [and_one] at h9 ⊢
          cases e : bt (n2 >>> (nI b &&& 31)) 0
          · rfl
          · rw [e] at h9; exact absurd rfl h9
        rw [if_neg h, h', nI_mul, nI_add, Nat.zero_mul]) (gB π) 0 FU 0 0 (by omega) (FU_gt (by omega)) rfl
  have q : c' = nI (giveS π σ n2 x) := q
  rw [← q]; exact e
theorem nI_dec {x : Nat} (h : x + 1 < 2147483648) : nI (x + 1) + -1 = nI x := by
  rw [← Int32.sub_eq_add_neg, nI_pred]
theorem c_seed51 {n2 : Int32} {b N : Nat} (hb : b < 6) (hN : N ≤ 99) (hS : RS π σ (s_year, s_wet, s_lost, s_eaten, s_tied, s_ripeMany, s_gone, s_place, s_heard, s_many, s_lying, s_ripe)) (hp : p_beds = nI (gB π)) (ok : OkP π) (os : OkS π σ) : ∀ (x n : Nat), x ≤ 12 → x < n → f_X9_seed_51 s_many p_beds (nI b) n2 (nI N) n (nI x) x_missing x_misused = some (0, nI (seedS π σ b n2 N x), x_missing, x_misused) := by
  intro x
  induction x with
  | zero =>
    intro n hx hn
    obtain ⟨m, rfl⟩ : ∃ m, n = m + 1 := ⟨n - 1, by omega⟩
    rw [f_X9_seed_51, if_pos (by decide)]
    rfl
  | succ x ih =>
    intro n hx hn
    obtain ⟨m, rfl⟩ : ∃ m, n = m + 1 := ⟨n - 1, by omega⟩
    have hg := giveS_le π σ n2 hx ok
    have hma := hS.2.2.2.2.2.2.2.2.2.1 b hb
    have h13 := (os.2.2.2.2.1 b).1
    rw [f_X9_seed_51]
    simp (disch := omega) only [show (0 : Int32) = nI 0 from rfl, nI_leJ]
    rw [if_neg (by omega), c_givenBy hx hS hp ok os, b1_s]
    simp (disch := omega) only [nI_ltJ]
    unfold seedS
    by_cases h : N < giveS π σ n2 (x + 1)
    · rw [if_pos h, if_pos h, nI_dec (by omega)]
      exact ih m (by omega) (by omega)
    · rw [if_neg h, if_neg h, ixb_nI (by omega) (by omega), if_pos rfl, nI_cl (by omega), hma, imin_nI (by omega) (by omega)]
theorem m_seed58 {n2 : Int32} {b N : Nat} (hb : b < 6) (hN : N ≤ 99) (hS : RM π σ m_now) (hp : m_beds = nI (gB π)) (ok : OkP π) (os : OkS π σ) : ∀ (x n : Nat), x ≤ 12 → x < n → f_X10_seed_58 m_beds m_now (nI b) n2 (nI N) n (nI x) m_thrown m_refused = some (if hasW n2 (nI b) then nI (seedS π σ b n2 N x) else 0, m_thrown, m_refused) := by
  intro x
  have hma := hS.2.2.2.2.2.2.2.2.2.1 b hb
  have h13 := (os.2.2.2.2.1 b).1
  have hz : ∀ (v : Int32), ¬ hasW v (nI b) → (v >>> (nI b &&& 31)) &&& 1 = 0 := fun v h => by
    have h9 : ¬ (v >>> (nI b &&& 31)) &&& 1 = 1 := h
    rw [and_one] at h9 ⊢
    cases e : bt (v >>> (nI b &&& 31)) 0
    · rfl
    · rw [e] at h9; exact absurd rfl h9
  have hend : ∀ x, x ≤ 12 → (if (n2 >>> (nI b &&& 31)) &&& 1 = 0 then some ((0 : Int32), m_thrown, m_refused) else if ixb (84 + nI b) 165 = true then b1 (f_X10_held (m_now (84 + nI b).toNatClampNeg) (nI x)) (fun v2 => some (v2, m_thrown, m_refused)) else none) = some (if hasW n2 (nI b) then nI (min x (gLy σ b).length) else 0, m_thrown, m_refused) := by
    intro x hx
    by_cases h : hasW n2 (nI b)
    · have h' : (n2 >>> (nI b &&& 31)) &&& 1 = 1 := h
      rw [if_pos h, h', if_neg (by decide), show (84 : Int32) + nI b = nI (84 + b) from nI_add 84 b, ixb_nI (by omega) (by omega), if_pos rfl, nI_cl (by omega), hma, m_held (by omega) (by omega), b1_s]
    · rw [if_neg h, if_pos (hz n2 h)]
  induction x with
  | zero =>
    intro n hx hn
    obtain ⟨m, rfl⟩ : ∃ m, n = m + 1 := ⟨n - 1, by omega⟩
    have hg0 : giveS π σ n2 0 = 0 := by
      have h := itN_inv (step := fun b (a : Nat) => a + (if hasW n2 (nI b) then min 0 (gLy σ b).length else 0)) (P := fun _ a => a = 0) (B := gB π) (fun b a hb ha => by
        have ha : a = 0 := ha
        show a + (if hasW n2 (nI b) then min 0 (gLy σ b).length else 0) = 0
        rw [ha, Nat.zero_min, ite_self]) (gB π) 0 0 (by omega) rfl
      exact h
    rw [f_X10_seed_58, m_seedBy (by omega) hS hp ok os, b1_s, hg0]
    simp (disch := omega) only [nI_leJ]
    rw [if_pos (Nat.zero_le _)]
    refine (hend 0 (by omega)).trans ?_
    rw [Nat.zero_min]
    rfl
  | succ x ih =>
    intro n hx hn
    obtain ⟨m, rfl⟩ : ∃ m, n = m + 1 := ⟨n - 1, by omega⟩
    have hg := giveS_le π σ n2 hx ok
    rw [f_X10_seed_58, m_seedBy hx hS hp ok os, b1_s]
    simp (disch := omega) only [nI_leJ]
    unfold seedS
    by_cases h : N < giveS π σ n2 (x + 1)
    · rw [if_neg (by omega), if_pos h, nI_dec (by omega)]
      exact ih m (by omega) (by omega)
    · rw [if_pos (by omega), if_neg h]
      exact hend (x + 1) hx
theorem k_seed (hS : RS π σ (s_year, s_wet, s_lost, s_eaten, s_tied, s_ripeMany, s_gone, s_place, s_heard, s_many, s_lying, s_ripe)) (hM : RM π σ m_now) (hP : RPc π (p_beds, p_letters, p_readers, p_far, p_drain, p_length, p_words, p_home)) (hQ : RPm π m_beds m_letters m_readers m_bed m_letter m_reader) (ok : OkP π) (os : OkS π σ) (hc : RC x_missing x_misused m_refused) (n1 n2 n3 : Int32) :
    ∃ ex r mi mu rf, f_X9_seed x_missing x_misused s_many p_beds n1 n2 n3 = some (ex, r, mi, mu) ∧ f_X10_seed m_thrown m_refused m_beds m_now n1 n2 n3 = some (r, nI ex, rf) ∧ (ex = 0 ∨ ex = 1 ∨ ex = 2) ∧ RC mi mu rf := by
  have h6 := ok.1
  have hp6 := pow6 _ h6
  have hp0 : 0 < 2 ^ gB π := Nat.pow_pos (by decide)
  have e0 := hQ.1
  subst e0
  have e1 := hP.1
  subst e1
  unfold f_X9_seed f_X10_seed
  rw [c_one, m_isB _ (by omega)]
  by_cases h : 0 ≤ n1 ∧ n1 < nI (gB π)
  case neg =>
    refine ⟨1, 0, x_missing + 1, x_misused, upd m_refused 0 (m_refused 0 + 1), ?_, ?_, Or.inr (Or.inl rfl), rc_mi hc⟩
    · rw [if_neg h]; rfl
    · rw [if_neg h]; rfl
  rw [if_pos h, if_pos h, b2_s, if_pos rfl, c_range, b3_s, if_neg (show ¬ (1 : Int32) = 0 by decide), shl6 _ h6]
  obtain ⟨b, hb, rfl⟩ := inL (B := gB π) (by omega) h.1 h.2
  by_cases h2 : 0 ≤ n2 ∧ n2 ≤ nI (2 ^ gB π) - 1
  case neg =>
    refine ⟨2, 0, x_missing, x_misused + 1, upd m_refused 1 (m_refused 1 + 1), ?_, ?_, Or.inr (Or.inr rfl), rc_mu hc⟩
    · rw [if_neg h2]; rfl
    · by_cases h3 : n2 < 0
      · rw [if_pos h3]; rfl
      · rw [if_neg h3]
        have h4 : nI (2 ^ gB π) ≤ n2 := by
          rcases Int32.le_total (nI (2 ^ gB π)) n2 with h9 | h9
          · exact h9
          · by_cases h8 : n2 < nI (2 ^ gB π)
            · exact absurd ⟨Int32.not_lt.mp h3, (le_pred (by omega)).mpr h8⟩ h2
            · exact Int32.not_lt.mp h8
        rw [if_pos h4]; rfl
  have h2b := (le_pred (n := n2) (B := 2 ^ gB π) (by omega)).mp h2.2
  rw [if_pos h2, b2_s, if_pos rfl, c_range, if_neg (Int32.not_lt.mpr h2.1), if_neg (Int32.not_le.mpr h2b), m_within]
  by_cases h3 : 0 ≤ n3 ∧ n3 ≤ 99
  case neg =>
    refine ⟨2, 0, x_missing, x_misused + 1, upd m_refused 1 (m_refused 1 + 1), ?_, ?_, Or.inr (Or.inr rfl), rc_mu hc⟩
    · rw [if_neg h3]; rfl
    · rw [if_neg h3]; rfl
  obtain ⟨N, hN, rfl⟩ := inN (B := 99) (by decide) h3.1 h3.2
  refine ⟨0, if hasW n2 (nI b) then nI (seedS π σ b n2 N 12) else 0, x_missing, x_misused, m_refused, ?_, ?_, Or.inl rfl, hc⟩
  · rw [if_pos h3, b2_s, if_pos rfl, c_has, b1_s]
    by_cases h9 : hasW n2 (nI b)
    · rw [if_pos h9, if_pos h9, if_neg (by decide)]
      exact c_seed51 (by omega) hN hS rfl ok os 12 FU (by omega) (FU_gt (by omega))
    · rw [if_neg h9, if_neg h9, if_pos rfl]
  · rw [if_pos h3, b1_s, if_neg (by decide)]
    unfold f_X10_seed_44
    rw [m_may1, b3_s, if_neg (by decide)]
    exact m_seed58 (by omega) hN hM rfl ok os 12 FU (by omega) (FU_gt (by omega))
theorem c_timesOf {w : Nat} (hw : w < 16) (hS : RS π σ (s_year, s_wet, s_lost, s_eaten, s_tied, s_ripeMany, s_gone, s_place, s_heard, s_many, s_lying, s_ripe)) (hp : p_beds = nI (gB π)) (ok : OkP π) (os : OkS π σ) : f_X4_timesOf s_many s_lying p_beds (nI w) = some (timesI π σ w) := by
  have h6 := ok.1
  unfold f_X4_timesOf
  refine loopF (F := fun n a x => f_X4_timesOf_5 s_many s_lying p_beds (nI w) n a x) (B := gB π) (step := fun b a => itN (fun k a => a + (if (gLy σ b).getD k 0 = w then 1 else 0)) (gLy σ b).length 0 a) (fin := some) (fun n a => ?_) (fun n a b hb => ?_) (gB π) 0 FU 0 (by omega) (FU_gt (by omega))
  · show f_X4_timesOf_5 s_many s_lying p_beds (nI w) (n + 1) a (nI (gB π)) = _
    rw [f_X4_timesOf_5, hp, if_pos (Int32.le_refl _)]
  · show f_X4_timesOf_5 s_many s_lying p_beds (nI w) (n + 1) a (nI b) = f_X4_timesOf_5 s_many s_lying p_beds (nI w) n _ (nI (b + 1))
    have hma := hS.2.2.2.2.2.2.2.2.2.1 b (by omega)
    have h13 := (os.2.2.2.2.1 b).1
    have hwd := (os.2.2.2.2.1 b).2.2
    rw [f_X4_timesOf_5, hp]
    simp (disch := omega) only [nI_leJ]
    rw [if_neg (by omega)]
    rw [← hp]
    generalize f_X4_timesOf_5 s_many s_lying p_beds (nI w) n = kk
    refine loopF (F := fun n a x => f_X4_timesOf_17 s_many s_lying p_beds (nI w) kk n a (nI b) x) (B := (gLy σ b).length) (step := fun k a => a + (if (gLy σ b).getD k 0 = w then 1 else 0)) (fin := fun a => kk a (nI (b + 1))) (fun n a => ?_) (fun n a k hk => ?_) (gLy σ b).length 0 FU a (by omega) (FU_gt (by omega))
    · show f_X4_timesOf_17 s_many s_lying p_beds (nI w) kk (n + 1) a (nI b) (nI (gLy σ b).length) = _
      rw [f_X4_timesOf_17, ixb_nI (by omega) (by omega), if_pos rfl, nI_cl (by omega), hma, if_pos (Int32.le_refl _), nI_1]
    · show f_X4_timesOf_17 s_many s_lying p_beds (nI w) kk (n + 1) a (nI b) (nI k) = f_X4_timesOf_17 s_many s_lying p_beds (nI w) kk n _ (nI b) (nI (k + 1))
      have hg : (gLy σ b).getD k 0 < 16 := by
        rw [List.getD_eq_getElem?_getD, List.getElem?_eq_getElem hk]; exact hwd _ (List.getElem_mem hk)
      rw [f_X4_timesOf_17, ixb_nI (by omega) (by omega), if_pos rfl, nI_cl (by omega), hma]
      simp (disch := omega) only [nI_leJ]
      rw [if_neg (by omega), c_lyingAt hS os (by omega) (by omega), b1_s, if_pos hk, nI_1]
      simp (disch := omega) only [nI_eqI]
      by_cases h : (gLy σ b).getD k 0 = w
      · rw [if_pos h, if_pos h]
      · rw [if_neg h, if_neg h]
theorem m_oftenOf {w : Nat} (hw : w < 16) (hS : RM π σ m_now) (hp : m_beds = nI (gB π)) (ok : OkP π) (os : OkS π σ) : f_X10_oftenOf m_beds m_now (nI w) = some (timesI π σ w) := by
  have h6 := ok.1
  unfold f_X10_oftenOf
  refine loopF (F := fun n a x => f_X10_oftenOf_4 m_beds m_now (nI w) n a x) (B := gB π) (step := fun b a => itN (fun k a => a + (if (gLy σ b).getD k 0 = w then 1 else 0)) (gLy σ b).length 0 a) (fin := some) (fun n a => ?_) (fun n a b hb => ?_) (gB π) 0 FU 0 (by omega) (FU_gt (by omega))
  · show f_X10_oftenOf_4 m_beds m_now (nI w) (n + 1) a (nI (gB π)) = _
    rw [f_X10_oftenOf_4, hp, if_pos (Int32.le_refl _)]
  · show f_X10_oftenOf_4 m_beds m_now (nI w) (n + 1) a (nI b) = f_X10_oftenOf_4 m_beds m_now (nI w) n _ (nI (b + 1))
    have hma := hS.2.2.2.2.2.2.2.2.2.1 b (by omega)
    have h13 := (os.2.2.2.2.1 b).1
    have hwd := (os.2.2.2.2.1 b).2.2
    rw [f_X10_oftenOf_4, hp]
    simp (disch := omega) only [nI_leJ]
    rw [if_neg (by omega)]
    rw [← hp]
    generalize f_X10_oftenOf_4 m_beds m_now (nI w) n = kk
    refine loopF (F := fun n a x => f_X10_oftenOf_15 m_beds m_now (nI w) kk n a (nI b) x) (B := (gLy σ b).length) (step := fun k a => a + (if (gLy σ b).getD k 0 = w then 1 else 0)) (fin := fun a => kk a (nI (b + 1))) (fun n a => ?_) (fun n a k hk => ?_) (gLy σ b).length 0 FU a (by omega) (FU_gt (by omega))
    · show f_X10_oftenOf_15 m_beds m_now (nI w) kk (n + 1) a (nI b) (nI (gLy σ b).length) = _
      rw [f_X10_oftenOf_15, show (84 : Int32) + nI b = nI (84 + b) from nI_add 84 b, ixb_nI (by omega) (by omega), if_pos rfl, nI_cl (by omega), hma, if_pos (Int32.le_refl _), nI_1]
    · show f_X10_oftenOf_15 m_beds m_now (nI w) kk (n + 1) a (nI b) (nI k) = f_X10_oftenOf_15 m_beds m_now (nI w) kk n _ (nI b) (nI (k + 1))
      have hg : (gLy σ b).getD k 0 < 16 := by
        rw [List.getD_eq_getElem?_getD, List.getElem?_eq_getElem hk]; exact hwd _ (List.getElem_mem hk)
      have hly := hS.2.2.2.2.2.2.2.2.2.2.1 b k (by omega) hk
      rw [f_X10_oftenOf_15, show (84 : Int32) + nI b = nI (84 + b) from nI_add 84 b, ixb_nI (by omega) (by omega), if_pos rfl, nI_cl (by omega), hma]
      simp (disch := omega) only [nI_leJ]
      rw [if_neg (by omega), show ((12 : Int32) + 12 * nI b) + nI k = nI (12 + 12 * b + k) by rw [show (12 : Int32) = nI 12 from rfl, nI_mul, nI_add, nI_add], ixb_nI (by omega) (by omega), if_pos rfl, nI_cl (by omega), hly, nI_1]
      simp (disch := omega) only [nI_eqI]
      by_cases h : (gLy σ b).getD k 0 = w
      · rw [if_pos h, if_pos h]
      · rw [if_neg h, if_neg h]
def ofC (π : Pg) (σ : Sg) : Option Nat → Int32
  | none => -1
  | some w => timesI π σ w
theorem c_often14 {n1 : Int32} (hS : RS π σ (s_year, s_wet, s_lost, s_eaten, s_tied, s_ripeMany, s_gone, s_place, s_heard, s_many, s_lying, s_ripe)) (hp : p_beds = nI (gB π)) (ok : OkP π) (os : OkS π σ) : ∀ (d w n : Nat) (o : Option Nat), w + d = 16 → d < n → (∀ j, o = some j → j < 16 ∧ ¬ timesI π σ j ≤ 0) → f_X9_often_14 s_many s_lying p_beds n1 n (obI o) (ofC π σ o) (nI w) x_misused = some (0, if n1 = 0 then obI (oftenS π σ d w o) else ofC π σ (oftenS π σ d w o), x_misused) := by
  intro d
  induction d with
  | zero =>
    intro w n o hw hn ho
    obtain ⟨m, rfl⟩ : ∃ m, n = m + 1 := ⟨n - 1, by omega⟩
    obtain rfl : w = 16 := by omega
    rw [f_X9_often_14, if_pos (by decide)]
    unfold oftenS
    by_cases h : n1 = 0
    · rw [if_pos h, if_pos h]
    · rw [if_neg h, if_neg h]
  | succ d ih =>
    intro w n o hw hn ho
    obtain ⟨m, rfl⟩ : ∃ m, n = m + 1 := ⟨n - 1, by omega⟩
    rw [f_X9_often_14]
    simp (disch := omega) only [show (16 : Int32) = nI 16 from rfl, nI_leJ]
    rw [if_neg (by omega), c_timesOf (by omega) hS hp ok os, b1_s, nI_1]
    unfold oftenS
    by_cases h1 : timesI π σ w ≤ 0
    · rw [if_pos h1]
      have e : (if timesI π σ w ≤ oft0 π σ o then o else some w) = o := by
        cases o with
        | none => exact if_pos h1
        | some j =>
          have hj := (ho j rfl).2
          exact if_pos (Int32.le_trans h1 (by rcases Int32.le_total 0 (timesI π σ j) with h9 | h9; exact h9; exact absurd h9 hj))
      rw [e]
      exact ih (w + 1) m o (by omega) (by omega) ho
    · rw [if_neg h1]
      cases o with
      | none =>
        have h2 : ¬ timesI π σ w ≤ ofC π σ none := fun h9 => h1 (Int32.le_trans (show timesI π σ w ≤ -1 from h9) (by decide))
        rw [if_neg h2]
        show _ = some (0, if n1 = 0 then obI (oftenS π σ d (w + 1) (if timesI π σ w ≤ 0 then none else some w)) else ofC π σ (oftenS π σ d (w + 1) (if timesI π σ w ≤ 0 then none else some w)), x_misused)
        rw [if_neg h1]
        exact ih (w + 1) m (some w) (by omega) (by omega) (fun j hj => by cases hj; exact ⟨by omega, h1⟩)
      | some j =>
        show (if timesI π σ w ≤ timesI π σ j then _ else _) = some (0, if n1 = 0 then obI (oftenS π σ d (w + 1) (if timesI π σ w ≤ timesI π σ j then some j else some w)) else ofC π σ (oftenS π σ d (w + 1) (if timesI π σ w ≤ timesI π σ j then some j else some w)), x_misused)
        by_cases h2 : timesI π σ w ≤ timesI π σ j
        · rw [if_pos h2, if_pos h2]
          exact ih (w + 1) m (some j) (by omega) (by omega) ho
        · rw [if_neg h2, if_neg h2]
          exact ih (w + 1) m (some w) (by omega) (by omega) (fun j hj => by cases hj; exact ⟨by omega, h1⟩)
theorem oftenS_ok (π : Pg) (σ : Sg) : ∀ (d w : Nat) (o : Option Nat), w + d = 16 → (∀ j, o = some j → j < 16) → ∀ j, oftenS π σ d w o = some j → j < 16 := by
  intro d
  induction d with
  | zero => intro w o _ ho; exact ho
  | succ d ih =>
    intro w o hw ho
    unfold oftenS
    refine ih (w + 1) _ (by omega) (fun j hj => ?_)
    by_cases h : timesI π σ w ≤ oft0 π σ o
    · rw [if_pos h] at hj; exact ho j hj
    · rw [if_neg h] at hj; cases hj; omega
theorem m_often26 {n1 : Int32} (hS : RM π σ m_now) (hp : m_beds = nI (gB π)) (ok : OkP π) (os : OkS π σ) : ∀ (d w n : Nat) (o : Option Nat), w + d = 16 → d < n → (∀ j, o = some j → j < 16) → f_X10_often_26 m_beds m_now n1 n (obI o) (nI w) m_thrown m_refused = some (if n1 = 0 then obI (oftenS π σ d w o) else ofC π σ (oftenS π σ d w o), m_thrown, m_refused) := by
  intro d
  induction d with
  | zero =>
    intro w n o hw hn ho
    obtain ⟨m, rfl⟩ : ∃ m, n = m + 1 := ⟨n - 1, by omega⟩
    obtain rfl : w = 16 := by omega
    rw [f_X10_often_26, if_pos (by decide)]
    unfold oftenS
    by_cases h : n1 = 0
    · rw [if_pos h, if_pos h]
    · rw [if_neg h, if_neg h]
      cases o with
      | none => rfl
      | some j =>
        have hj := ho j rfl
        rw [if_neg (show ¬ obI (some j) = -1 by show ¬ nI j = -1; rw [nI_neM (by omega)]; exact id), show obI (some j) = nI j from rfl, m_oftenOf hj hS hp ok os, b1_s]
        rfl
  | succ d ih =>
    intro w n o hw hn ho
    obtain ⟨m, rfl⟩ : ∃ m, n = m + 1 := ⟨n - 1, by omega⟩
    rw [f_X10_often_26]
    simp (disch := omega) only [show (16 : Int32) = nI 16 from rfl, nI_leJ]
    rw [if_neg (by omega), m_oftenOf (by omega) hS hp ok os, b1_s]
    unfold oftenS f_X10_often_51
    rw [nI_1]
    cases o with
    | none =>
      rw [if_pos (show obI none = -1 from rfl)]
      show _ = some (if n1 = 0 then obI (oftenS π σ d (w + 1) (if timesI π σ w ≤ 0 then none else some w)) else ofC π σ (oftenS π σ d (w + 1) (if timesI π σ w ≤ 0 then none else some w)), m_thrown, m_refused)
      by_cases h1 : timesI π σ w ≤ 0
      · rw [if_pos h1, if_pos h1]
        exact ih (w + 1) m none (by omega) (by omega) ho
      · rw [if_neg h1, if_neg h1]
        exact ih (w + 1) m (some w) (by omega) (by omega) (fun j hj => by cases hj; omega)
    | some j =>
      have hj := ho j rfl
      rw [if_neg (show ¬ obI (some j) = -1 by show ¬ nI j = -1; rw [nI_neM (by omega)]; exact id), show obI (some j) = nI j from rfl, m_oftenOf hj hS hp ok os, b1_s]
      show _ = some (if n1 = 0 then obI (oftenS π σ d (w + 1) (if timesI π σ w ≤ timesI π σ j then some j else some w)) else ofC π σ (oftenS π σ d (w + 1) (if timesI π σ w ≤ timesI π σ j then some j else some w)), m_thrown, m_refused)
      by_cases h1 : timesI π σ w ≤ timesI π σ j
      · rw [if_pos h1, if_pos h1]
        exact ih (w + 1) m (some j) (by omega) (by omega) ho
      · rw [if_neg h1, if_neg h1]
        exact ih (w + 1) m (some w) (by omega) (by omega) (fun j hj => by cases hj; omega)
theorem k_often (hS : RS π σ (s_year, s_wet, s_lost, s_eaten, s_tied, s_ripeMany, s_gone, s_place, s_heard, s_many, s_lying, s_ripe)) (hM : RM π σ m_now) (hP : RPc π (p_beds, p_letters, p_readers, p_far, p_drain, p_length, p_words, p_home)) (hQ : RPm π m_beds m_letters m_readers m_bed m_letter m_reader) (ok : OkP π) (os : OkS π σ) (hc : RC x_missing x_misused m_refused) (n1 : Int32) :
    ∃ ex r mu rf, f_X9_often x_misused s_many s_lying p_beds n1 = some (ex, r, mu) ∧ f_X10_often m_thrown m_refused m_beds m_now n1 = some (r, if ex = 0 then 0 else 1, rf) ∧ (ex = 0 ∨ ex = 2) ∧ RC x_missing mu rf := by
  unfold f_X9_often f_X10_often
  rw [c_range, m_within]
  by_cases h : 0 ≤ n1 ∧ n1 ≤ 1
  · refine ⟨0, if n1 = 0 then obI (oftenS π σ 16 0 none) else ofC π σ (oftenS π σ 16 0 none), x_misused, m_refused, ?_, ?_, Or.inl rfl, hc⟩
    · rw [if_pos h, b2_s, if_pos rfl]
      exact c_often14 hS hP.1 ok os 16 0 FU none (by omega) (FU_gt (by omega)) (fun j hj => by cases hj)
    · rw [if_pos h, b1_s, m_may1, b3_s, if_neg (by decide)]
      exact m_often26 hM hQ.1 ok os 16 0 FU none (by omega) (FU_gt (by omega)) (fun j hj => by cases hj)
  · refine ⟨2, 0, x_misused + 1, upd m_refused 1 (m_refused 1 + 1), ?_, ?_, Or.inr rfl, rc_mu hc⟩
    · rw [if_neg h]; rfl
    · rw [if_neg h]; rfl
end KG
